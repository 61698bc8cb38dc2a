theorem cnt_step {p : Nat → Bool} {a b : Nat} (h : a < b) (hp : p a = true) : cnt p a < cnt p b := by
  have h1 : cnt p (a + 1) = cnt p a + 1 := by show _ + _ = _; rw [hp]; rfl
  have h2 : cnt p (a + 1) ≤ cnt p b := by
    obtain ⟨d, rfl⟩ : ∃ d, b = (a + 1) + d := ⟨b - (a + 1), by omega⟩
    rw [cnt_add p (a + 1) d]
    omega
  omega
theorem cnt_le_cnt {p : Nat → Bool} {a b : Nat} (h : a ≤ b) : cnt p a ≤ cnt p b := by
  obtain ⟨d, rfl⟩ : ∃ d, b = a + d := ⟨b - a, by omega⟩
  rw [cnt_add]
  omega
/-- the i-th of them -/
theorem cnt_at {p : Nat → Bool} : ∀ N i, i < cnt p N → ∃ x, x < N ∧ p x = true ∧ cnt p x = i
  | 0, i, h => absurd h (Nat.not_lt_zero _)
  | N + 1, i, h => by
    by_cases hi : i < cnt p N
    · obtain ⟨x, h1, h2, h3⟩ := cnt_at N i hi
      exact ⟨x, by omega, h2, h3⟩
    · have h' : i < cnt p N + (if p N then 1 else 0) := h
      cases hp : p N
      · rw [hp] at h'
        have : i < cnt p N := h'
        exact absurd this hi
      · rw [hp] at h'
        have : i < cnt p N + 1 := h'
        exact ⟨N, by omega, hp, by omega⟩
theorem cnt_inj {p : Nat → Bool} {a b : Nat} (ha : p a = true) (hb : p b = true) (h : cnt p a = cnt p b) : a = b := by
  rcases Nat.lt_trichotomy a b with q | q | q
  · have := cnt_step q ha; omega
  · exact q
  · have := cnt_step q hb; omega
section VOTE
variable {g : Gr} {N : Nat}
theorem el_lt (h : POK g N) {y z : Nat} (hy : y < N) (he : el g y z = true) : z < y := by
  unfold el at he
  simp only [Bool.and_eq_true, decide_eq_true_eq] at he
  obtain ⟨h1, h2, h3⟩ := he
  apply Classical.byContradiction
  intro hq
  by_cases e : z = y
  · subst e; omega
  · rw [str_big h hy (show y < z by omega)] at h3
    cases h3
theorem el_rnd {y z : Nat} (he : el g y z = true) : wit g z = true ∧ rnd g z + 1 = rnd g y := by
  unfold el at he
  simp only [Bool.and_eq_true, decide_eq_true_eq] at he
  exact ⟨he.1, he.2.1⟩
theorem vt_eq (hb : Nat → Bool) (x y : Nat) : vt g hb x y = vtF g hb x (vt g hb x) y := by
  refine fx_eq y (fun f f2 hf => ?_)
  have e1 : vtY g f y = vtY g f2 y := cnt_congr y (fun z hz => by rw [hf z hz])
  have e2 : vtN g f y = vtN g f2 y := cnt_congr y (fun z hz => by rw [hf z hz])
  unfold vtF
  rw [e1, e2]
theorem bN_cases (b : Bool) : (b = false ∧ bN b = 0) ∨ (b = true ∧ bN b = 1) := by cases b <;> simp [bN]
theorem vput_Fr (hb : Nat → Bool) (σ : Sg) (x y : Nat) : Fr [42, 44] σ (vput g hb σ x y) := by
  unfold vput
  dsimp only
  split <;> split
  · exact ((Fr_bput σ 41 x y).mono (by decide)).trans ((Fr_bput _ 43 x y).mono (by decide))
  · exact (Fr_bput σ 43 x y).mono (by decide)
  · exact (Fr_bput σ 41 x y).mono (by decide)
  · exact Fr.refl _ _
theorem vput_41 (hb : Nat → Bool) (σ : Sg) (x y r b : Nat) (hy : y < 256) (hb2 : b < 256) : bt (vput g hb σ x y) 41 r b = (bt σ 41 r b || (decide (r = x ∧ b = y) && odd (vt g hb x y))) := by
  unfold vput
  dsimp only
  have h43 : ∀ σ1 : Sg, bt (bput σ1 43 x y) 41 r b = bt σ1 41 r b := fun σ1 => (Fr_bput σ1 43 x y).bt (by decide) r b
  have main : bt (if odd (vt g hb x y) then bput σ 41 x y else σ) 41 r b = (bt σ 41 r b || (decide (r = x ∧ b = y) && odd (vt g hb x y))) := by
    cases ho : odd (vt g hb x y)
    · rw [if_neg (by decide), Bool.and_false, Bool.or_false]
    · rw [if_pos rfl, Bool.and_true, bt_put _ _ _ _ _ _ hy hb2]
  by_cases h2 : 2 ≤ vt g hb x y
  · rw [if_pos h2, h43]
    exact main
  · rw [if_neg h2]
    exact main
theorem vput_43 (hb : Nat → Bool) (σ : Sg) (x y r b : Nat) (hy : y < 256) (hb2 : b < 256) : bt (vput g hb σ x y) 43 r b = (bt σ 43 r b || (decide (r = x ∧ b = y) && decide (2 ≤ vt g hb x y))) := by
  unfold vput
  dsimp only
  have h41 : bt (if odd (vt g hb x y) then bput σ 41 x y else σ) 43 r b = bt σ 43 r b := by
    split
    · exact (Fr_bput σ 41 x y).bt (by decide) r b
    · rfl
  by_cases h2 : 2 ≤ vt g hb x y
  · rw [if_pos h2, bt_put _ _ _ _ _ _ hy hb2, h41, decide_eq_true h2, Bool.and_true]
  · rw [if_neg h2, h41, decide_eq_false h2, Bool.and_false, Bool.or_false]
/-- the vote written by its two marks -/
theorem write_ok (hb : Nat → Bool) {σ : Sg} {K : Sg → Prop} {x y v : Nat} {a c : Int32} (hx : x < 240) (hy : y < 240) (hv : vt g hb x y = v) (ha : a = bI (odd v)) (hc : c = bI (decide (2 ≤ v))) (hK : K (vput g hb σ x y)) : sp_X1_write (nI y) (nI x) a c σ K := by
  subst hv
  have K2 : K (if 2 ≤ vt g hb x y then bput (if odd (vt g hb x y) then bput σ 41 x y else σ) 43 x y else (if odd (vt g hb x y) then bput σ 41 x y else σ)) := hK
  have J13 : ∀ σ1 : Sg, σ1 = (if odd (vt g hb x y) then bput σ 41 x y else σ) → f_X1_write_13 (nI y) (nI x) a c K σ1 := by
    intro σ1 e1
    rw [← e1] at K2
    refine ⟨fun q => ?_, fun q => ?_⟩
    · rw [hc, bI_0, decide_eq_false_iff_not] at q
      rw [if_neg q] at K2
      exact K2
    · rw [hc, bI_1, decide_eq_true_eq] at q
      rw [if_pos q] at K2
      exact ⟨by decide, x, y, rfl, rfl, by omega, by omega, K2⟩
  refine ⟨fun q => J13 σ ?_, fun q => ⟨by decide, x, y, rfl, rfl, by omega, by omega, J13 _ ?_⟩⟩
  · rw [ha, bI_0] at q
    rw [if_neg (by rw [q]; decide)]
  · rw [ha, bI_1] at q
    rw [if_pos q]
theorem irem4 {d : Nat} (h : d < 2 ^ 31) : irem (nI d) 4 = nI (d % 4) := pk_rem (d := 4) h (by decide) (by decide)
theorem v_X1_castVote (x1 x2 : Int32) (σ : Sg) (K : Sg → Prop) (h : sp_X1_castVote x1 x2 σ K) : vc_X1_castVote x1 x2 σ K := by
  obtain ⟨g, hb, M, x, y, rfl, rfl, hx, hy, hM, hP, hT, hR, hH, hn, hr, he, hy41, hK⟩ := h
  have rx := rnd_pos hP x hx
  have ry := rnd_pos hP y hy
  have ve := vt_eq (g := g) hb x y
  unfold vc_X1_castVote f_X1_castVote_e
  rw [cl_nI (show x < 2 ^ 31 by omega), cl_nI (show y < 2 ^ 31 by omega), (hR x hx).1, (hR y hy).1, pk_sub (by omega)]
  refine ⟨v240 (by omega), v240 (by omega), fun hd => ?_, fun hd => ?_⟩
  · have hd1 : ¬ rnd g y - rnd g x = 1 := fun e => hd (by rw [e]; rfl)
    have hlt : rnd g x + 1 < rnd g y := by omega
    have eY : cnt (fun b => bt σ 39 y b && bt σ 41 x b) 256 = vtY g (vt g hb x) y := by
      rw [cnt_ext (show y ≤ 256 by omega) (fun i h1 h2 => by
        rw [he i h2]
        cases e : el g y i
        · rfl
        · have := el_lt hP hy e; omega)]
      refine cnt_congr y (fun z hz => ?_)
      rw [he z (by omega)]
      cases e : el g y z
      · rfl
      · rw [hy41 hlt z hz e]
    have eT : cnt (fun b => bt σ 39 y b) 256 = vtY g (vt g hb x) y + vtN g (vt g hb x) y := by
      rw [cnt_ext (show y ≤ 256 by omega) (fun i h1 h2 => by
        rw [he i h2]
        cases e : el g y i
        · rfl
        · have := el_lt hP hy e; omega)]
      rw [cnt_congr y (fun z hz => he z (by omega)), cnt_split _ (fun z => odd (vt g hb x z)) y]
      rfl
    have lY : vtY g (vt g hb x) y ≤ y := cnt_le _ _
    have lN : vtN g (vt g hb x) y ≤ y := cnt_le _ _
    refine ⟨by decide, by decide, y, x, rfl, rfl, by omega, by omega, ?_⟩
    refine ⟨by decide, y, rfl, by omega, ?_⟩
    show (nI (cnt (fun b => bt σ 39 y b && bt σ 41 x b) 256) < nI (cnt (fun b => bt σ 39 y b) 256) - nI (cnt (fun b => bt σ 39 y b && bt σ 41 x b) 256) → f_X1_castVote_85 _ _ _ _ _ _ 0 σ) ∧ (¬ (nI (cnt (fun b => bt σ 39 y b && bt σ 41 x b) 256) < nI (cnt (fun b => bt σ 39 y b) 256) - nI (cnt (fun b => bt σ 39 y b && bt σ 41 x b) 256)) → f_X1_castVote_85 _ _ _ _ (nI (cnt (fun b => bt σ 39 y b && bt σ 41 x b) 256)) (nI (cnt (fun b => bt σ 39 y b) 256) - nI (cnt (fun b => bt σ 39 y b && bt σ 41 x b) 256)) 1 σ)
    rw [eY, eT, pk_sub (by omega), Nat.add_sub_cancel_left]
    unfold vtF at ve
    rw [if_neg hd1] at ve
    obtain ⟨Y, hY⟩ : ∃ Y, Y = vtY g (vt g hb x) y := ⟨_, rfl⟩
    obtain ⟨Z, hZ⟩ : ∃ Z, Z = vtN g (vt g hb x) y := ⟨_, rfl⟩
    rw [← hY, ← hZ] at ve ⊢
    rw [← hY] at lY
    rw [← hZ] at lN
    have J85 : ∀ v : Bool, v = decide (Z ≤ Y) → f_X1_castVote_85 (nI y) (nI x) K (nI (rnd g y - rnd g x)) (nI Y) (nI Z) (bI v) σ := by
      intro v hv
      rw [← hv] at ve
      show f_X7_isMost_e (imax (nI Y) (nI Z)) (σ.1 37 7) (fun r13 u14 => _) σ
      rw [imax_nI (by omega) (by omega), hn, irem4 (by omega)]
      have e4 : nI ((rnd g y - rnd g x) % 4) = 0 ↔ (rnd g y - rnd g x) % 4 = 0 := nI_eq (b := 0) (by omega) (by omega)
      have hml : max Y Z ≤ 256 := by omega
      have vb := bN_cases v
      have vB := bN_cases (hb y)
      refine ⟨fun c => ⟨isZ_0, fun c4 => ⟨fun _ => ?_, fun q => absurd rfl q⟩, fun c4 => ?_⟩, fun c => ⟨isZ_1, fun c4 => ⟨fun q => absurd q (by decide), fun _ => ?_⟩, fun c4 => ?_⟩⟩
      · have cm := (most_nI hP.2.2 hml).mp c
        rw [if_pos (e4.mp c4), if_neg (by rw [cm]; decide)] at ve
        have e84 : (nI y * 8) + 4 = nI (y * 8 + 4) := by rw [show (8 : Int32) = nI 8 from rfl, pk_mul, show (4 : Int32) = nI 4 from rfl, nI_add]
        show vp_in ((nI y * 8) + 4) 1920 ∧ (0 ≤ σ.1 19 ((nI y * 8) + 4).toNatClampNeg → _) ∧ (¬ (0 ≤ σ.1 19 ((nI y * 8) + 4).toNatClampNeg) → _)
        rw [e84, cl_nI (by omega)]
        refine ⟨vp_in_nI (by omega) (by omega), fun q => ?_, fun q => ?_⟩
        · have hbf : hb y = false := by
            cases e : hb y
            · rfl
            · have := (hH y hy).mpr e
              exact absurd q (Int32.not_le.mpr this)
          rw [hbf] at ve
          exact write_ok hb (by omega) (by omega) ve rfl rfl hK
        · have hbt : hb y = true := (hH y hy).mp (Int32.not_le.mp q)
          rw [hbt] at ve
          exact write_ok hb (by omega) (by omega) ve rfl rfl hK
      · have cm := (most_nI hP.2.2 hml).mp c
        rw [if_neg (fun q => c4 (e4.mpr q)), if_neg (by rw [cm]; decide), Nat.add_zero] at ve
        refine write_ok hb (by omega) (by omega) ve ?_ ?_ hK
        · cases v <;> rfl
        · cases v <;> rfl
      · have cm : most g (max Y Z) = true := by
          cases e : most g (max Y Z)
          · exact absurd ((most_nI hP.2.2 hml).mpr e) c
          · rfl
        rw [if_pos (e4.mp c4), if_pos cm] at ve
        refine write_ok hb (by omega) (by omega) ve ?_ ?_ hK
        · cases v <;> rfl
        · cases v <;> rfl
      · have cm : most g (max Y Z) = true := by
          cases e : most g (max Y Z)
          · exact absurd ((most_nI hP.2.2 hml).mpr e) c
          · rfl
        rw [if_neg (fun q => c4 (e4.mpr q)), if_pos cm] at ve
        refine write_ok hb (by omega) (by omega) ve ?_ ?_ hK
        · cases v <;> rfl
        · cases v <;> rfl
    refine ⟨fun q => ?_, fun q => ?_⟩
    · have := (nI_ltI (by omega) (by omega)).mp q
      exact J85 false (decide_eq_false (by omega)).symm
    · have : ¬ Y < Z := fun z => q (nI_lt z (by omega))
      exact J85 true (decide_eq_true (by omega)).symm
  · have hd1 : rnd g y - rnd g x = 1 := (nI_eq (b := 1) (by omega) (by omega)).mp hd
    refine ⟨by decide, y, x, rfl, rfl, by omega, by omega, ?_⟩
    have hb25 : bt σ 25 y x = see g y x := hT y x hy (by omega)
    rw [hb25]
    unfold vtF at ve
    rw [if_pos hd1] at ve
    refine write_ok hb (by omega) (by omega) ve ?_ ?_ hK
    · cases see g y x <;> rfl
    · cases see g y x <;> rfl
end VOTE
