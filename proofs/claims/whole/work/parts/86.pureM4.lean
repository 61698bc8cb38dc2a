theorem narB (n : Nat) (h : n < 100) : vp_nar .byte (i2b (nI n)) = nI n := by
  have key : ∀ n : Nat, n < 100 → vp_nar .byte (i2b (nI n)) = nI n := by decide +kernel
  exact key n h
theorem MS.sm {g : Gr} {M : Nat} {σ τ : Sg} (h : MS g M σ) (e : τ.1 18 = σ.1 18) : MS g M τ := fun x y hx hy => by rw [e]; exact h x y hx hy
theorem MV.sm {g : Gr} {hb : Nat → Bool} {M : Nat} {σ τ : Sg} (h : MV g hb M σ) (e : τ.1 19 = σ.1 19) : MV g hb M τ := fun x y hx hy => by rw [e]; exact h x y hx hy
theorem MR.sm {g : Gr} {M : Nat} {σ τ : Sg} (h : MR g M σ) (e : τ.1 7 = σ.1 7) (e2 : τ.1 17 = σ.1 17) : MR g M τ := fun x hx => by rw [e, e2]; exact h x hx
theorem MT.sm {g : Gr} {M : Nat} {σ τ : Sg} (h : MT g M σ) (e0 : τ.1 0 1 = σ.1 0 1) (e1 : τ.1 1 = σ.1 1) (e2 : τ.1 2 = σ.1 2) (e3 : τ.1 3 = σ.1 3) (e14 : τ.1 14 = σ.1 14) (e16 : τ.1 16 = σ.1 16) : MT g M τ := by
  obtain ⟨a, b, c, d, e⟩ := h
  exact ⟨a, by rw [e0]; exact b, fun x hx => by rw [e1, e2, e3]; exact c x hx, fun x y hx hy => by rw [e14]; exact d x y hx hy, fun x d hx hd => by rw [e16]; exact e x d hx hd⟩
theorem MT.fr {g : Gr} {M : Nat} {σ τ : Sg} {S : List Nat} (h : MT g M σ) (F : Fr S σ τ) (d : ∀ a ∈ [0, 1, 2, 3, 14, 16], a ∉ S) : MT g M τ := h.sm (by rw [(F 0 (d 0 (by decide))).1]) (F 1 (d 1 (by decide))).1 (F 2 (d 2 (by decide))).1 (F 3 (d 3 (by decide))).1 (F 14 (d 14 (by decide))).1 (F 16 (d 16 (by decide))).1
theorem v_X8_strongly (x1 x2 : Int32) (σ : Sg) (K : Int32 → Sg → Prop) (h : sp_X8_strongly x1 x2 σ K) : vc_X8_strongly x1 x2 σ K := by
  obtain ⟨g, M, x, y, rfl, rfl, hx, hy, hT, hS, hK⟩ := h
  obtain ⟨⟨hM, hP, hO⟩, hn, hE, hA, hF⟩ := id hT
  intro L r
  have hg8 := hP.2.2
  have ck : (nI (x * 240 + y)).toNatClampNeg = x * 240 + y := cl_nI (by omega)
  have vk := v57 (show x < 240 by omega) (show y < 240 by omega)
  have fin : ∀ τ : Sg, MS g M τ → Fr [18] σ τ → τ.1 18 (x * 240 + y) = nI (1 + bN (str g x y)) → f_X8_strongly_99 (nI x) (nI y) L K (nI (x * 240 + y)) τ := by
    intro τ t1 t2 t3
    unfold f_X8_strongly_99 f_X8_strongly_114
    rw [ck, t3]
    have hk := hK τ t1 t2
    cases hs : str g x y
    · rw [hs] at hk
      exact ⟨vk, fun _ => ⟨isZ_0, hk⟩, fun c => absurd c (by decide)⟩
    · rw [hs] at hk
      exact ⟨vk, fun c => absurd rfl c, fun _ => ⟨isZ_1, hk⟩⟩
  have store : ∀ b, b = str g x y → f_X8_strongly_97 (nI x) (nI y) L K (nI (x * 240 + y)) (nI (1 + bN b)) (nI (x * 240 + y)) σ := by
    intro b hb
    subst hb
    unfold f_X8_strongly_97
    have hb1 : bN (str g x y) ≤ 1 := by cases str g x y <;> decide
    rw [ck, narB _ (by omega)]
    refine ⟨vk, fin _ (fun a c ha hc => ?_) (Fr_pI (Fr.refl _ _) (by decide)) (by rw [pI_at, if_pos ⟨rfl, rfl⟩])⟩
    rw [pI_at]
    by_cases e : a * 240 + c = x * 240 + y
    · have e1 : a = x := by omega
      have e2 : c = y := by omega
      subst e1 e2
      rw [if_pos ⟨rfl, rfl⟩]
      exact Or.inr ⟨hx, hy, rfl⟩
    · rw [if_neg (fun q => e q.2)]
      exact hS a c ha hc
  obtain ⟨q, hq⟩ : ∃ q : Nat → Nat → Bool, q = fun c z => decide (gc g z = c) && (see g x z && see g z y) := ⟨_, rfl⟩
  have loop : ∀ z, z ≤ x + 1 → ∀ m, MKb m (fun c => anyN (q c) z) → L (nI (x * 240 + y)) (nI m) (nI z) σ := by
    refine lup (L := fun z m => L (nI (x * 240 + y)) (nI m) (nI z) σ) (fun z m => MKb m (fun c => anyN (q c) z)) (x + 1) (fun m hm => ?_) (fun z m hz hm ih => ?_)
    · refine r _ _ _ _ ⟨fun _ => ⟨m, hm.1, rfl, mmost_ok (g := g) hg8 hn (by have := pop8_le m; omega) ?_⟩, fun c => absurd (nI_lt (Nat.lt_succ_self x) (by omega)) c⟩
      have e : most g (pop8 m) = str g x y := by
        rw [mk_pop hm, hq]
        rfl
      rw [e]
      refine ⟨fun c => ?_, fun c => ?_⟩
      · rw [bI_0] at c
        exact store false c.symm
      · rw [bI_1] at c
        exact store true c.symm
    · have cz : (nI z).toNatClampNeg = z := cl_nI (by omega)
      have step : ∀ c, anyN (q c) (z + 1) = (anyN (q c) z || q c z) := fun c => rfl
      have skip : (∀ c, q c z = false) → L (nI (x * 240 + y)) (nI m) (nI z + 1) σ := fun e => by
        rw [nI_1]
        refine ih m (mk_same hm (fun c _ => ?_))
        show anyN (q c) (z + 1) = anyN (q c) z
        rw [step, e c, Bool.or_false]
      refine r _ _ _ _ ?_
      unfold f_X8_strongly_23 f_X8_strongly_69
      refine ⟨fun c => absurd c (nI_nlt (by omega) (by omega)), fun _ => ⟨g, M, x, z, rfl, rfl, hx, by omega, hT, fun c => skip (fun d => ?_), fun c => ⟨fun c2 => skip (fun d => ?_), fun c2 => ⟨g, M, z, y, rfl, rfl, by omega, hy, hT, fun c3 => skip (fun d => ?_), fun c3 => ?_⟩⟩⟩⟩
      · rw [bI_0] at c
        rw [hq]
        show (_ && (see g x z && _)) = false
        rw [c]
        simp
      · have zy : z < y := (nI_ltI (by omega) (by omega)).mp c2
        have e : see g z y = false := by
          unfold see
          cases ea : anc g z y
          · rfl
          · have := anc_le hP z (by omega) y ea; omega
        rw [hq]
        show (_ && (_ && see g z y)) = false
        rw [e]
        simp
      · rw [bI_0] at c3
        rw [hq]
        show (_ && (_ && see g z y)) = false
        rw [c3]
        simp
      · rw [bI_1] at c c3
        have hcz := (hP.1 z (by omega)).1
        show vp_in (nI z) 240 ∧ L (nI (x * 240 + y)) (nI m ||| ishl 1 (σ.1 1 (nI z).toNatClampNeg)) (nI z + 1) σ
        rw [cz, (hE z (by omega)).1, bit_or hm.1 hcz, nI_1]
        refine ⟨v240 (by omega), ih _ (mk_or hm hcz (fun d _ => ?_))⟩
        show anyN (q d) (z + 1) = _
        rw [step]
        congr 1
        rw [hq]
        show (decide (gc g z = d) && (see g x z && see g z y)) = _
        rw [c, c3, Bool.true_and, Bool.and_true]
  show f_X8_strongly_e (nI x) (nI y) L K σ
  unfold f_X8_strongly_e
  rw [mi240, ck]
  refine ⟨vk, fun c => ?_, fun c => loop 0 (Nat.zero_le _) 0 (mk_0 (fun _ _ => rfl))⟩
  rcases hS x y (by omega) (by omega) with e | ⟨-, -, e⟩
  · exact absurd e c
  · exact fin σ hS (Fr.refl _ _) e
theorem v_X8_voteOf (x1 x2 : Int32) (σ : Sg) (K : Int32 → Sg → Prop) (h : sp_X8_voteOf x1 x2 σ K) : vc_X8_voteOf x1 x2 σ K := by
  obtain ⟨g, hb, M, y, x, rfl, rfl, hy, hx, wy, wx, hlt, hT, hS, hR, hV, hB, hK⟩ := h
  obtain ⟨⟨hM, hP, hO⟩, hn, hE, hA, hF⟩ := id hT
  intro L r
  have hg8 := hP.2.2
  have cy : (nI y).toNatClampNeg = y := cl_nI (by omega)
  have cx : (nI x).toNatClampNeg = x := cl_nI (by omega)
  have ck : (nI (y * 240 + x)).toNatClampNeg = y * 240 + x := cl_nI (by omega)
  have vk := v57 (show y < 240 by omega) (show x < 240 by omega)
  have ry := rnd_pos hP y hy
  have rx := rnd_pos hP x hx
  have hv3 := vt_le (g := g) (hb := hb) x y
  -- the end: the vote is kept
  have fin : ∀ τ : Sg, MS g M τ → MV g hb M τ → Fr [18, 19] σ τ → ∀ v, v = nI (vt g hb x y) → f_X8_voteOf_234 (nI y) (nI x) L K (nI (y * 240 + x)) v τ := by
    intro τ t1 t2 t3 v hv
    subst hv
    unfold f_X8_voteOf_234
    rw [ck, nI_1, narB _ (by omega)]
    refine ⟨vk, hK _ (t1.sm (pI_ne _ _ _ (by decide))) (fun a c ha hc => ?_) (Fr_pI t3 (by decide))⟩
    rw [pI_at]
    by_cases e : a * 240 + c = y * 240 + x
    · have e1 : a = y := by omega
      have e2 : c = x := by omega
      subst e1 e2
      rw [if_pos ⟨rfl, rfl⟩, Nat.add_comm]
      exact Or.inr ⟨hy, hx, rfl⟩
    · rw [if_neg (fun q => e q.2)]
      exact t2 a c ha hc
  have ed : nI (rnd g y) - nI (rnd g x) = nI (rnd g y - rnd g x) := nI_subL (by omega)
  -- all votes counted
  have endl : ∀ τ : Sg, MS g M τ → MV g hb M τ → Fr [18, 19] σ τ → rnd g y - rnd g x ≠ 1 → f_X8_voteOf_75 (nI y) (nI x) L K (nI (y * 240 + x)) (nI (rnd g y - rnd g x)) (nI (vtY g (vt g hb x) y)) (nI (vtN g (vt g hb x) y)) (nI y) τ := by
    intro τ t1 t2 t3 hd1
    have hY : vtY g (vt g hb x) y ≤ y := cnt_le _ _
    have hN : vtN g (vt g hb x) y ≤ y := cnt_le _ _
    have T : MT g M τ := hT.fr t3 (by decide)
    have ev := vt_eq (g := g) hb x y
    unfold vtF at ev
    rw [if_neg hd1] at ev
    -- a choice, as a number v, with its side's count
    have mid : ∀ (v c : Nat), v = bN (decide (vtN g (vt g hb x) y ≤ vtY g (vt g hb x) y)) → c = max (vtY g (vt g hb x) y) (vtN g (vt g hb x) y) → f_X8_voteOf_178 (nI y) (nI x) L K (nI (y * 240 + x)) (nI (rnd g y - rnd g x)) (nI v) (nI c) τ := by
      intro v c hv hc
      have hv1 : v ≤ 1 := by rw [hv]; cases decide (vtN g (vt g hb x) y ≤ vtY g (vt g hb x) y) <;> decide
      unfold f_X8_voteOf_178 f_X8_voteOf_232 f_X8_voteOf_202
      refine mmost_ok (g := g) hg8 T.2.1 (by omega) ?_
      have g8 : τ.1 8 = σ.1 8 := (t3 8 (by decide)).1
      rw [irem4 (by omega), show (8 * nI y) + 4 = nI (y * 8 + 4) from mi8 y 4, cl_nI (show y * 8 + 4 < 2 ^ 31 by omega), g8]
      refine ⟨fun q => ?_, fun q => ?_⟩
      · have q4 : (rnd g y - rnd g x) % 4 = 0 := (nI_eq (by omega) (by decide)).mp q
        rw [if_pos q4] at ev
        refine ⟨fun c1 => fin τ t1 t2 t3 _ ?_, fun c1 => ⟨v19 (by omega) (by decide), fun c2 => fin τ t1 t2 t3 _ ?_, fun c2 => fin τ t1 t2 t3 _ ?_⟩⟩
        · rw [bI_1] at c1
          rw [← hc, if_pos c1] at ev
          rw [ev, hv]
        · rw [bI_0] at c1
          rw [← hc, if_neg (by rw [c1]; decide)] at ev
          have : hb y = false := by
            cases e : hb y
            · rfl
            · exact absurd ((hB y hy).mpr e) (Int32.not_lt.mpr c2)
          rw [ev, this]
          rfl
        · rw [bI_0] at c1
          rw [← hc, if_neg (by rw [c1]; decide)] at ev
          have : hb y = true := (hB y hy).mp (Int32.not_le.mp c2)
          rw [ev, this]
          rfl
      · have q4 : ¬ (rnd g y - rnd g x) % 4 = 0 := fun z => q (by rw [z]; rfl)
        rw [if_neg q4] at ev
        refine ⟨fun c1 => fin τ t1 t2 t3 _ ?_, fun c1 => fin τ t1 t2 t3 _ ?_⟩
        · rw [bI_0] at c1
          rw [← hc, if_neg (by rw [c1]; decide)] at ev
          rw [ev, ← hv, show nI v + 0 = nI (v + 0) from nI_add v 0]
        · rw [bI_1] at c1
          rw [← hc, if_pos c1] at ev
          rw [ev, ← hv, show nI v + 2 = nI (v + 2) from nI_add v 2]
    unfold f_X8_voteOf_75 f_X8_voteOf_162
    refine ⟨fun _ => ⟨fun c => ⟨fun _ => ?_, fun q => absurd q (by decide)⟩, fun c => ⟨fun q => absurd rfl q, fun _ => ?_⟩⟩, fun q => absurd (Int32.le_refl _) q⟩
    · have c' : vtY g (vt g hb x) y < vtN g (vt g hb x) y := (nI_ltI (by omega) (by omega)).mp c
      exact mid 0 _ (by rw [decide_eq_false (by omega)]; rfl) (Nat.max_eq_right (by omega)).symm
    · have c' : ¬ vtY g (vt g hb x) y < vtN g (vt g hb x) y := fun z => c (nI_lt z (by omega))
      exact mid 1 _ (by rw [decide_eq_true (by omega)]; rfl) (Nat.max_eq_left (by omega)).symm
  obtain ⟨pY, hpY⟩ : ∃ p : Nat → Bool, p = fun z => el g y z && odd (vt g hb x z) := ⟨_, rfl⟩
  obtain ⟨pN, hpN⟩ : ∃ p : Nat → Bool, p = fun z => el g y z && !odd (vt g hb x z) := ⟨_, rfl⟩
  have loop : rnd g y - rnd g x ≠ 1 → ∀ w, w ≤ y → ∀ τ : Sg, (MS g M τ ∧ MV g hb M τ ∧ Fr [18, 19] σ τ) → L (nI (y * 240 + x)) (nI (rnd g y - rnd g x)) (nI (cnt pY w)) (nI (cnt pN w)) (nI w) τ := by
    intro hd1
    refine lup (L := fun w τ => L (nI (y * 240 + x)) (nI (rnd g y - rnd g x)) (nI (cnt pY w)) (nI (cnt pN w)) (nI w) τ) (fun w τ => MS g M τ ∧ MV g hb M τ ∧ Fr [18, 19] σ τ) y (fun τ ht => ?_) (fun w τ hw ht ih => ?_)
    · refine r _ _ _ _ _ _ ?_
      rw [hpY, hpN]
      exact endl τ ht.1 ht.2.1 ht.2.2 hd1
    · obtain ⟨t1, t2, t3⟩ := ht
      have cw : (nI w).toNatClampNeg = w := cl_nI (by omega)
      have sY : cnt pY (w + 1) = cnt pY w + if pY w then 1 else 0 := rfl
      have sN : cnt pN (w + 1) = cnt pN w + if pN w then 1 else 0 := rfl
      have skip : ∀ τ2 : Sg, MS g M τ2 → MV g hb M τ2 → Fr [18, 19] σ τ2 → el g y w = false → L (nI (y * 240 + x)) (nI (rnd g y - rnd g x)) (nI (cnt pY w)) (nI (cnt pN w)) (nI w + 1) τ2 := fun τ2 a1 a2 a3 e => by
        have := ih τ2 ⟨a1, a2, a3⟩
        rw [sY, sN, hpY, hpN] at this
        simp only [e, Bool.false_and, Bool.false_eq_true, if_false, Nat.add_zero] at this
        rw [nI_1, hpY, hpN]
        exact this
      have rw0 := rnd_pos hP w (by omega)
      have g7 : τ.1 7 = σ.1 7 := (t3 7 (by decide)).1
      have g17 : τ.1 17 = σ.1 17 := (t3 17 (by decide)).1
      have e1 : nI (rnd g y) - 1 = nI (rnd g y - 1) := nI_subL (b := 1) (by omega)
      refine r _ _ _ _ _ _ ?_
      unfold f_X8_voteOf_75 f_X8_voteOf_144
      rw [cw, cy, g7, g17, (hR w (by omega)).1, (hR w (by omega)).2, (hR y hy).1, e1]
      refine ⟨fun c => absurd c (nI_ge hw (by omega)), fun _ => ⟨v240 (by omega), fun c => skip τ t1 t2 t3 ?_, fun c => ⟨v240 (by omega), v240 (by omega), fun c2 => skip τ t1 t2 t3 ?_, fun c2 => ?_⟩⟩⟩
      · rw [bI_0] at c
        unfold el
        rw [c]
        rfl
      · have : ¬ rnd g w + 1 = rnd g y := fun z => c2 (by rw [← z]; rfl)
        unfold el
        rw [decide_eq_false this]
        simp
      · rw [bI_1] at c
        have c2' : rnd g w = rnd g y - 1 := (nI_eq (by omega) (by omega)).mp c2
        have T : MT g M τ := hT.fr t3 (by decide)
        refine ⟨g, M, y, w, rfl, rfl, hy, by omega, T, t1, fun τ1 s1 f1 => ⟨fun c3 => ?_, fun c3 => skip τ1 s1 (t2.sm (f1 19 (by decide)).1) (t3.trans (f1.mono (by decide))) ?_⟩⟩
        · rw [bI_1] at c3
          have hel : el g y w = true := by
            unfold el
            rw [c, c3, decide_eq_true (show rnd g w + 1 = rnd g y by omega)]
            rfl
          have F1 : Fr [18, 19] σ τ1 := t3.trans (f1.mono (by decide))
          refine ⟨g, hb, M, w, x, rfl, rfl, by omega, hx, c, wx, by omega, hT.fr F1 (by decide), s1, hR.sm (F1 7 (by decide)).1 (F1 17 (by decide)).1, t2.sm (f1 19 (by decide)).1, fun z hz => by rw [(F1 8 (by decide)).1]; exact hB z hz, fun τ2 s2 m2 f2 => ?_⟩
          have hw3 := vt_le (g := g) (hb := hb) x w
          have ea : nI (vt g hb x w) &&& 1 = nI (vt g hb x w % 2) := pk_andN (by omega) 1 (by decide)
          have F2 := F1.trans f2
          have nxt := ih τ2 ⟨s2, m2, F2⟩
          rw [sY, sN, hpY, hpN] at nxt
          simp only [hel, Bool.true_and] at nxt
          dsimp only
          rw [ea, nI_1, nI_1, nI_1, hpY, hpN]
          refine ⟨fun c4 => ?_, fun c4 => ?_⟩
          · have : odd (vt g hb x w) = false := decide_eq_false (fun z => c4 (by rw [z]; rfl))
            simp only [this, Bool.false_eq_true, if_false, Nat.add_zero, Bool.not_false, if_true] at nxt
            exact nxt
          · have c5 : vt g hb x w % 2 = 1 := (nI_eq (by omega) (by decide)).mp c4
            have : odd (vt g hb x w) = true := decide_eq_true c5
            simp only [this, if_true, Bool.not_true, Bool.false_eq_true, if_false, Nat.add_zero] at nxt
            exact nxt
        · rw [bI_0] at c3
          unfold el
          rw [c3]
          simp
  show f_X8_voteOf_e (nI y) (nI x) L K σ
  unfold f_X8_voteOf_e f_X8_voteOf_61
  rw [mi240, ck, cy, cx, (hR y hy).1, (hR x hx).1, ed]
  refine ⟨vk, fun c => ⟨v240 (by omega), v240 (by omega), fun c2 => ?_, fun c2 => ?_⟩, fun c => ⟨vk, ?_⟩⟩
  · have hd1 : rnd g y - rnd g x ≠ 1 := fun z => c2 (by rw [z]; rfl)
    exact loop hd1 0 (Nat.zero_le _) σ ⟨hS, hV, Fr.refl _ _⟩
  · have hd1 : rnd g y - rnd g x = 1 := (nI_eq (by omega) (by decide)).mp c2
    have ev := vt_eq (g := g) hb x y
    unfold vtF at ev
    rw [if_pos hd1] at ev
    refine ⟨g, M, y, x, rfl, rfl, hy, hx, hT, fun c3 => fin σ hS hV (Fr.refl _ _) _ ?_, fun c3 => fin σ hS hV (Fr.refl _ _) _ ?_⟩
    · rw [bI_0] at c3
      rw [ev, c3]
      rfl
    · rw [bI_1] at c3
      rw [ev, c3]
      rfl
  · rcases hV y x (by omega) (by omega) with e | ⟨-, -, e⟩
    · exact absurd e c
    · rw [e, Nat.add_comm, show nI (vt g hb x y + 1) - 1 = nI (vt g hb x y) from nI_pred _]
      exact hK σ hS hV (Fr.refl _ _)
