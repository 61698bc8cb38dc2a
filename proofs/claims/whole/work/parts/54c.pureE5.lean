section VIEW5
variable {p : Vp} {v : Nat} {σ : Sg}
theorem VR.keep {τ : Sg} {S : List Nat} (h : VR p v σ) (hF : Fr S σ τ) (h1 : v + 2 ∉ S) (h2 : v + 3 ∉ S) : VR p v τ := ⟨fun x hx => by rw [(hF _ h1).1]; exact h.1 x hx, fun x hx hi => by rw [(hF _ h2).2]; exact h.2 x hx hi⟩
theorem rcv_le (x : Nat) : rcv p x ≤ 240 := by
  have gen : ∀ (q : Nat → Bool) k a, fst1 q a k = 0 ∨ fst1 q a k < a + k := by
    intro q k
    induction k with
    | zero => intro a; exact Or.inl rfl
    | succ k ihk =>
      intro a
      show (if q a then a else fst1 q (a + 1) k) = 0 ∨ (if q a then a else fst1 q (a + 1) k) < a + (k + 1)
      split
      · exact Or.inr (by omega)
      · rcases ihk (a + 1) with h | h
        · exact Or.inl h
        · exact Or.inr (by omega)
  unfold rcv
  split
  · rcases gen (fun r => stl p r && bel p r x) 240 1 with h | h <;> omega
  · omega
theorem sv_eq_of {a b : Nat → Int32} : ∀ k w, (∀ j, w ≤ j → j < w + k → a j = b j) → sv a w k = sv b w k
  | 0, w, _ => rfl
  | k + 1, w, h => by
    show ul (a w) * 2 ^ (32 * k) + sv a (w + 1) k = ul (b w) * 2 ^ (32 * k) + sv b (w + 1) k
    rw [h w (Nat.le_refl w) (by omega), sv_eq_of k (w + 1) (fun j h1 h2 => h j (by omega) (by omega))]
theorem sv_pre {a b : Nat → Int32} : ∀ w k, (∀ j, j < w → a j = b j) → (sv a 0 (w + k) < sv b 0 (w + k) ↔ sv a w k < sv b w k) := by
  have gen : ∀ w s k, (∀ j, s ≤ j → j < s + w → a j = b j) → (sv a s (w + k) < sv b s (w + k) ↔ sv a (s + w) k < sv b (s + w) k) := by
    intro w
    induction w with
    | zero => intro s k _; rw [Nat.zero_add, Nat.add_zero]
    | succ w ih =>
      intro s k h
      rw [show w + 1 + k = (w + k) + 1 by omega, sv_cmp, h s (Nat.le_refl s) (by omega), ih (s + 1) k (fun j h1 h2 => h j (by omega) (by omega)), show s + 1 + w = s + (w + 1) by omega]
      constructor
      · rintro (q | ⟨-, q⟩)
        · omega
        · exact q
      · intro q
        exact Or.inr ⟨rfl, q⟩
  intro w k h
  have := gen w 0 k (fun j _ hj => h j (by omega))
  rw [Nat.zero_add] at this
  exact this
theorem v_X5_isBefore (v : Nat) (_ : IsView v) (x1 x2 : Int32) (σ : Sg) (K : Int32 → Sg → Prop) (h : sp_X5_isBefore v x1 x2 σ K) : vc_X5_isBefore v x1 x2 σ K := by
  obtain ⟨p, x, y, hV, hU, hR, rfl, rfl, hx, hy, hix, hiy, hK⟩ := h
  obtain ⟨hv, hP, hN, hE, hH, hTm, hTx, hk, hhd, hG, hL, h7⟩ := id hV
  intro L r
  have klt := key_lt (p := p) (show x < 256 by omega) (show y < 256 by omega)
  have cx : (nI x).toNatClampNeg = x := cl_nI (by omega)
  have cy : (nI y).toNatClampNeg = y := cl_nI (by omega)
  have rx := rcv_le (p := p) x
  have ry := rcv_le (p := p) y
  have hT : key p x < key p y → K 1 σ := fun q => by
    rw [decide_eq_true q] at hK
    exact hK
  have hF : ¬ key p x < key p y → K 0 σ := fun q => by
    rw [decide_eq_false q] at hK
    exact hK
  have main : rcv p x = rcv p y → stp p x = stp p y → ∀ w, w ≤ 8 → (∀ j, j < w → wht p x j = wht p y j) → L (nI w) σ := by
    intro er es
    refine down 8 (fun hj => ?_) (fun w hw ih hj => ?_)
    · have ex : ∀ j, 0 ≤ j → j < 0 + 8 → wht p x j = wht p y j := fun j _ h => hj j (by omega)
      have esv := sv_eq_of 8 0 ex
      refine r _ _ ⟨fun _ => ⟨fun c => ⟨isZ_0, hF ?_⟩, fun c => ⟨isZ_1, hT ?_⟩⟩, fun c => absurd (Int32.le_refl _) c⟩
      · have := (nI_leI (by omega) (by omega)).mp c
        rw [klt]
        rintro (q | ⟨-, q | ⟨-, q | ⟨-, q⟩⟩⟩)
        · omega
        · rw [es] at q
          exact Int64.lt_irrefl q
        · rw [esv] at q
          exact Nat.lt_irrefl _ q
        · omega
      · rw [klt]
        have : x < y := by
          apply Classical.byContradiction
          intro q
          exact c (nI_le (by omega) (by omega))
        exact Or.inr ⟨er, Or.inr ⟨es, Or.inr ⟨esv, this⟩⟩⟩
    · have e2 : σ.1 (v + 2) x = nI (rcv p x) := hR.1 x (by omega)
      have e9i : (nI (rcv p x) * 8) + nI w = nI (rcv p x * 8 + w) := by rw [show (8 : Int32) = nI 8 from rfl, pk_mul, nI_add]
      have exw : (nI x * 8) + nI w = nI (x * 8 + w) := by rw [show (8 : Int32) = nI 8 from rfl, pk_mul, nI_add]
      have eyw : (nI y * 8) + nI w = nI (y * 8 + w) := by rw [show (8 : Int32) = nI 8 from rfl, pk_mul, nI_add]
      have e9 : σ.1 (v + 9) (rcv p x * 8 + w) = xr p (rcv p x) w := hU.2.2.2 _ w rx hw
      have ax : phs p x w ^^^ xr p (rcv p x) w = wht p x w := rfl
      have ay : phs p y w ^^^ xr p (rcv p x) w = wht p y w := by rw [er]; rfl
      have scmp := sv_pre w (8 - w) hj
      rw [show w + (8 - w) = 8 by omega, show 8 - w = (7 - w) + 1 by omega, sv_cmp (wht p x) (wht p y) (7 - w) w] at scmp
      refine r _ _ ?_
      unfold f_X5_isBefore_76
      rw [cx, e2, e9i, cl_nI (show rcv p x * 8 + w < 2 ^ 31 by omega), e9]
      refine ⟨fun c => absurd c (nI_ge (b := 8) hw (by omega)), fun _ => ⟨v240 (by omega), vp_in_nI (by omega) (by omega), ?_⟩⟩
      show vp_in ((nI x * 8) + nI w) 1920 ∧ vp_in ((nI y * 8) + nI w) 1920 ∧ ((σ.1 19 ((nI x * 8) + nI w).toNatClampNeg ^^^ xr p (rcv p x) w) = (σ.1 19 ((nI y * 8) + nI w).toNatClampNeg ^^^ xr p (rcv p x) w) → L (nI w + 1) σ) ∧ (¬ ((σ.1 19 ((nI x * 8) + nI w).toNatClampNeg ^^^ xr p (rcv p x) w) = (σ.1 19 ((nI y * 8) + nI w).toNatClampNeg ^^^ xr p (rcv p x) w)) → (((σ.1 19 ((nI y * 8) + nI w).toNatClampNeg ^^^ xr p (rcv p x) w) ^^^ (-2147483648)) ≤ ((σ.1 19 ((nI x * 8) + nI w).toNatClampNeg ^^^ xr p (rcv p x) w) ^^^ (-2147483648)) → (isZ 0 ∧ K 0 σ)) ∧ (¬ (((σ.1 19 ((nI y * 8) + nI w).toNatClampNeg ^^^ xr p (rcv p x) w) ^^^ (-2147483648)) ≤ ((σ.1 19 ((nI x * 8) + nI w).toNatClampNeg ^^^ xr p (rcv p x) w) ^^^ (-2147483648))) → (isZ 1 ∧ K 1 σ)))
      rw [exw, eyw, cl_nI (show x * 8 + w < 2 ^ 31 by omega), cl_nI (show y * 8 + w < 2 ^ 31 by omega), hH x w hx hw, hH y w hy hw, ax, ay, minle, nI_1]
      refine ⟨vp_in_nI (by omega) (by omega), vp_in_nI (by omega) (by omega), fun c => ih (fun j hjw => ?_), fun c => ⟨fun d => ⟨isZ_0, hF ?_⟩, fun d => ⟨isZ_1, hT ?_⟩⟩⟩
      · by_cases e : j = w
        · rw [e]; exact c
        · exact hj j (by omega)
      · rw [klt]
        rintro (q | ⟨-, q | ⟨-, q | ⟨q, -⟩⟩⟩)
        · omega
        · rw [es] at q
          exact Int64.lt_irrefl q
        · rcases scmp.mp q with q | ⟨q, -⟩
          · omega
          · exact c q
        · have n1 : ¬ ul (wht p x w) < ul (wht p y w) := by omega
          have n2 : ul (wht p y w) < ul (wht p x w) := by
            have : ul (wht p x w) ≠ ul (wht p y w) := fun z => c (ul_inj z)
            omega
          have scmp2 := sv_pre (a := wht p y) (b := wht p x) w (8 - w) (fun j hjw => (hj j hjw).symm)
          rw [show w + (8 - w) = 8 by omega, show 8 - w = (7 - w) + 1 by omega, sv_cmp (wht p y) (wht p x) (7 - w) w] at scmp2
          have := scmp2.mpr (Or.inl n2)
          omega
      · rw [klt]
        exact Or.inr ⟨er, Or.inr ⟨es, Or.inl (scmp.mpr (Or.inl (by omega)))⟩⟩
  unfold f_X5_isBefore_e
  rw [cx, cy, hR.1 x (by omega), hR.1 y (by omega), hR.2 x hx hix, hR.2 y hy hiy, lg_cmp_eq, lg_cmp_ge]
  have hvx := v240 (show x < 240 by omega)
  have hvy := v240 (show y < 240 by omega)
  refine ⟨hvx, hvy, fun c => ⟨hvx, hvy, fun d => main ((nI_eq (by omega) (by omega)).mp c) d 0 (by omega) (fun j hj => absurd hj (Nat.not_lt_zero _)), fun d => ⟨hvx, hvy, fun e => ⟨isZ_0, hF ?_⟩, fun e => ⟨isZ_1, hT ?_⟩⟩⟩, fun c => ⟨hvx, hvy, fun d => ⟨isZ_0, hF ?_⟩, fun d => ⟨isZ_1, hT ?_⟩⟩⟩
  · have er := (nI_eq (by omega) (by omega)).mp c
    rw [klt]
    rintro (q | ⟨-, q | ⟨q, -⟩⟩)
    · omega
    · exact absurd e (Int64.not_le.mpr q)
    · exact d q
  · have er := (nI_eq (by omega) (by omega)).mp c
    rw [klt]
    exact Or.inr ⟨er, Or.inl (Int64.not_le.mp e)⟩
  · have := (nI_leI (by omega) (by omega)).mp d
    have h2 : rcv p x ≠ rcv p y := fun q => c (by rw [q])
    rw [klt]
    rintro (q | ⟨q, -⟩) <;> omega
  · rw [klt]
    refine Or.inl ?_
    apply Classical.byContradiction
    intro q
    exact d (nI_le (by omega) (by omega))
/-- how many stand before y, of those of q below M -/
def rk (p : Vp) (q : Nat → Bool) (M y : Nat) : Nat := cnt (fun z => q z && decide (key p z < key p y)) M
theorem key_inj {x y : Nat} (hx : x < 256) (hy : y < 256) (h : key p x = key p y) : x = y := by
  have a := key_lt (p := p) hx hy
  have b := key_lt (p := p) hy hx
  unfold key at h
  omega
theorem rk_lt {q : Nat → Bool} {M y : Nat} (hy : y < M) (hq : q y = true) : rk p q M y < cnt q M := cnt_lt (fun i _ h => by rw [Bool.and_eq_true] at h; exact h.1) hy (by rw [decide_eq_false (Nat.lt_irrefl _), Bool.and_false]) hq
theorem rk_mono {q : Nat → Bool} {M x y : Nat} (h : key p x ≤ key p y) : rk p q M x ≤ rk p q M y := cnt_mono M (fun i _ hi => by
  simp only [Bool.and_eq_true, decide_eq_true_eq] at hi ⊢
  exact ⟨hi.1, by omega⟩)
theorem rk_slt {q : Nat → Bool} {M x y : Nat} (hx : x < M) (hq : q x = true) (h : key p x < key p y) : rk p q M x < rk p q M y := cnt_lt (k := x) (fun i _ hi => by
  simp only [Bool.and_eq_true, decide_eq_true_eq] at hi ⊢
  exact ⟨hi.1, by omega⟩) hx (by rw [decide_eq_false (Nat.lt_irrefl _), Bool.and_false]) (by rw [hq, decide_eq_true h]; rfl)
theorem rk_succ (q : Nat → Bool) (M y : Nat) : rk p q (M + 1) y = rk p q M y + if (q M && decide (key p M < key p y)) then 1 else 0 := rfl
theorem rk_surj (q : Nat → Bool) : ∀ M, M ≤ 256 → ∀ j, j < cnt q M → ∃ y, y < M ∧ q y = true ∧ rk p q M y = j := by
  intro M
  induction M with
  | zero => intro _ j hj; exact absurd hj (Nat.not_lt_zero _)
  | succ M ih =>
    intro hM j hj
    have e1 : cnt q (M + 1) = cnt q M + if q M then 1 else 0 := rfl
    cases hq : q M
    · rw [e1, hq] at hj
      obtain ⟨y, h1, h2, h3⟩ := ih (by omega) j hj
      refine ⟨y, by omega, h2, ?_⟩
      rw [rk_succ, hq, h3]
      rfl
    · rw [e1, hq] at hj
      have hj : j < cnt q M + 1 := hj
      have hself : rk p q (M + 1) M = rk p q M M := by
        rw [rk_succ, decide_eq_false (Nat.lt_irrefl _), Bool.and_false]
        rfl
      rcases Nat.lt_trichotomy j (rk p q M M) with h | h | h
      · have hc : rk p q M M ≤ cnt q M := cnt_mono M (fun i _ hi => by rw [Bool.and_eq_true] at hi; exact hi.1)
        obtain ⟨y, h1, h2, h3⟩ := ih (by omega) j (by omega)
        refine ⟨y, by omega, h2, ?_⟩
        have hk : ¬ key p M < key p y := fun z => by
          have := rk_mono (p := p) (q := q) (M := M) (Nat.le_of_lt z)
          omega
        rw [rk_succ, decide_eq_false hk, Bool.and_false, h3]
        rfl
      · exact ⟨M, by omega, hq, by rw [hself, h]⟩
      · obtain ⟨y, h1, h2, h3⟩ := ih (by omega) (j - 1) (by omega)
        refine ⟨y, by omega, h2, ?_⟩
        have hk : key p M < key p y := by
          apply Classical.byContradiction
          intro z
          have hne : key p y ≠ key p M := fun e => by
            have := key_inj (p := p) (by omega) (by omega) e
            omega
          have := rk_slt (p := p) (q := q) (M := M) h1 h2 (show key p y < key p M by omega)
          omega
        rw [rk_succ, decide_eq_true hk, hq, h3]
        show j - 1 + 1 = j
        omega
theorem v_X5_insert (v : Nat) (_ : IsView v) (x1 : Int32) (σ : Sg) (K : Sg → Prop) (h : sp_X5_insert v x1 σ K) : vc_X5_insert v x1 σ K := by
  obtain ⟨p, x, hV, hU, hR, rfl, hx, hin, hS, h15, hK⟩ := h
  obtain ⟨hv, hP, hN, hE, hH, hTm, hTx, hk, hhd, hG, hL, h7⟩ := id hV
  intro L r
  have hLx : cnt (inR p) x ≤ x := cnt_le _ _
  have hrl : rk p (inR p) x x ≤ cnt (inR p) x := cnt_mono x (fun i _ hi => by rw [Bool.and_eq_true] at hi; exact hi.1)
  have hS' : ∀ y, y < x → inR p y = true → σ.1 (v + 5) (rk p (inR p) x y) = nI y := hS
  have fin : ∀ (τ : Sg), (∀ j, τ.1 (v + 5) j = if rk p (inR p) x x < j ∧ j ≤ cnt (inR p) x then σ.1 (v + 5) (j - 1) else σ.1 (v + 5) j) → Fr [v + 5] σ τ → f_X5_insert_45 v (nI x) L K (nI (rk p (inR p) x x)) τ := by
    intro τ ht hF
    unfold f_X5_insert_45
    rw [cl_nI (show rk p (inR p) x x < 2 ^ 31 by omega)]
    refine ⟨v240 (by omega), hK _ (fun y hy hiy => ?_) ?_ (fun j hj => ?_) (Fr_pI (Fr_pI (hF.mono (by simp)) (by simp)) (by simp))⟩
    · show (pI (pI τ (v + 5) (rk p (inR p) x x) (nI x)) v 15 _).1 (v + 5) (rk p (inR p) (x + 1) y) = nI y
      rw [pI_at, if_neg (fun q => absurd q.1 (by omega)), pI_at, rk_succ]
      by_cases e : y = x
      · subst e
        rw [decide_eq_false (Nat.lt_irrefl _), Bool.and_false]
        rw [if_pos ⟨rfl, rfl⟩]
      · have hyx : y < x := by omega
        by_cases hk2 : key p x < key p y
        · rw [decide_eq_true hk2, hin]
          have h1 := rk_mono (p := p) (q := inR p) (M := x) (Nat.le_of_lt hk2)
          have h2 := rk_lt (p := p) hyx hiy
          show (if v + 5 = v + 5 ∧ rk p (inR p) x y + 1 = rk p (inR p) x x then nI x else τ.1 (v + 5) (rk p (inR p) x y + 1)) = nI y
          rw [if_neg (fun q => absurd q.2 (by omega)), ht, if_pos ⟨by omega, by omega⟩, Nat.add_sub_cancel]
          exact hS' y hyx hiy
        · have hne : key p y ≠ key p x := fun z => e (key_inj (p := p) (by omega) (by omega) z)
          have h1 := rk_slt (p := p) (q := inR p) (M := x) hyx hiy (show key p y < key p x by omega)
          rw [decide_eq_false hk2, Bool.and_false]
          show (if v + 5 = v + 5 ∧ rk p (inR p) x y = rk p (inR p) x x then nI x else τ.1 (v + 5) (rk p (inR p) x y)) = nI y
          rw [if_neg (fun q => absurd q.2 (by omega)), ht, if_neg (by omega)]
          exact hS' y hyx hiy
    · have e15 : (pI τ (v + 5) (rk p (inR p) x x) (nI x)).1 v 15 = nI (cnt (inR p) x) := by
        rw [pI_at, if_neg (fun q => absurd q.1 (by omega)), (hF v (by simp)).1]
        exact h15
      have e1 : cnt (inR p) (x + 1) = cnt (inR p) x + if inR p x then 1 else 0 := rfl
      rw [pI_at, if_pos ⟨rfl, rfl⟩, e15, nI_1, e1, hin]
      rfl
    · rw [pI_at, if_neg (fun q => hj q.2), pI_at, if_neg (fun q => absurd q.1 (by omega)), (hF v (by simp)).1]
  have key : ∀ d k, k = rk p (inR p) x x + d → k ≤ cnt (inR p) x → ∀ τ : Sg, (∀ j, τ.1 (v + 5) j = if k < j ∧ j ≤ cnt (inR p) x then σ.1 (v + 5) (j - 1) else σ.1 (v + 5) j) → Fr [v + 5] σ τ → L (nI k) τ := by
    intro d
    induction d with
    | zero =>
      intro k hk hkL τ ht hF
      have hk : k = rk p (inR p) x x := hk
      refine r _ _ ⟨fun _ => by rw [hk]; exact fin τ (by rw [← hk]; exact ht) hF, fun c => ?_⟩
      have hk0 : 0 < k := by
        apply Classical.byContradiction
        intro q
        exact c (nI_le (b := 0) (by omega) (by omega))
      obtain ⟨y, hy1, hy2, hy3⟩ := rk_surj (p := p) (inR p) x (by omega) (k - 1) (by omega)
      have e1 : nI k - 1 = nI (k - 1) := by rw [show (1 : Int32) = nI 1 from rfl, pk_sub (by omega)]
      have hVt : Vb p v τ := hV.keep hF (by simp) (by rw [(hF v (by simp)).1])
      have ey : τ.1 (v + 5) (nI (k - 1)).toNatClampNeg = nI y := by rw [cl_nI (by omega), ht, if_neg (by omega), ← hy3]; exact hS' y hy1 hy2
      rw [e1, ey]
      have hnk : ¬ key p x < key p y := fun z => by
        have := rk_mono (p := p) (q := inR p) (M := x) (Nat.le_of_lt z)
        omega
      refine ⟨v240 (by omega), p, x, y, hVt, hU.keep hF (by simp) (by simp) (by simp) (by simp), hR.keep hF (by simp) (by simp), rfl, rfl, hx, by omega, hin, hy2, ?_⟩
      rw [decide_eq_false hnk]
      exact ⟨fun _ => by rw [hk]; exact fin τ (by rw [← hk]; exact ht) hF, fun q => absurd rfl q⟩
    | succ d ih =>
      intro k hk hkL τ ht hF
      obtain ⟨y, hy1, hy2, hy3⟩ := rk_surj (p := p) (inR p) x (by omega) (k - 1) (by omega)
      have e1 : nI k - 1 = nI (k - 1) := by rw [show (1 : Int32) = nI 1 from rfl, pk_sub (by omega)]
      have hVt : Vb p v τ := hV.keep hF (by simp) (by rw [(hF v (by simp)).1])
      have ck1 : (nI (k - 1)).toNatClampNeg = k - 1 := cl_nI (by omega)
      have ey : τ.1 (v + 5) (k - 1) = nI y := by rw [ht, if_neg (by omega), ← hy3]; exact hS' y hy1 hy2
      refine r _ _ ?_
      unfold f_X5_insert_5
      rw [e1, ck1, ey]
      have hnk : key p x < key p y := by
        apply Classical.byContradiction
        intro z
        have hne : key p y ≠ key p x := fun e => by
          have := key_inj (p := p) (by omega) (by omega) e
          omega
        have := rk_slt (p := p) (q := inR p) (M := x) hy1 hy2 (show key p y < key p x by omega)
        omega
      refine ⟨fun c => absurd c (nI_ge (a := 0) (b := k) (by omega) (by omega)), fun _ => ⟨v240 (by omega), p, x, y, hVt, hU.keep hF (by simp) (by simp) (by simp) (by simp), hR.keep hF (by simp) (by simp), rfl, rfl, hx, by omega, hin, hy2, ?_⟩⟩
      rw [decide_eq_true hnk]
      refine ⟨fun q => absurd q (by decide), fun _ => ⟨v240 (by omega), v240 (by omega), ?_⟩⟩
      have em : nI k + (-1) = nI (k - 1) := by
        rw [show k = (k - 1) + 1 by omega, pk_m1, Nat.add_sub_cancel]
      show L (nI k + (-1)) (pI τ (v + 5) (nI k).toNatClampNeg (τ.1 (v + 5) (k - 1)))
      rw [em, cl_nI (show k < 2 ^ 31 by omega)]
      refine ih (k - 1) (by omega) (by omega) _ (fun j => ?_) (Fr_pI hF (by simp))
      rw [pI_at]
      by_cases e : j = k
      · rw [if_pos ⟨rfl, e⟩, if_pos ⟨by omega, by omega⟩, e, ht, if_neg (by omega)]
      · rw [if_neg (fun q => e q.2), ht j]
        by_cases e2 : k < j ∧ j ≤ cnt (inR p) x
        · rw [if_pos e2, if_pos ⟨by omega, e2.2⟩]
        · rw [if_neg e2, if_neg (by omega)]
  unfold f_X5_insert_e
  rw [h15]
  exact key (cnt (inR p) x - rk p (inR p) x x) _ (by omega) (Nat.le_refl _) σ (fun j => by rw [if_neg (by omega)]) (Fr.refl _ _)
theorem pl_rk (x : Nat) : pl p x = rk p (inR p) (pN p) x := rfl
theorem v_X5_findOrder (v : Nat) (_ : IsView v) (σ : Sg) (K : Sg → Prop) (h : sp_X5_findOrder v σ K) : vc_X5_findOrder v σ K := by
  obtain ⟨p, hV, hU, hR, hK⟩ := h
  obtain ⟨hv, hP, hN, hE, hH, hTm, hTx, hk, hhd, hG, hL, h7⟩ := id hV
  intro L15 L48 r15 r48
  have hLx : oL p ≤ pN p := cnt_le _ _
  have hRi : ∀ x, inR p x = true ↔ rcv p x ≠ 0 := fun x => by unfold inR; simp
  have second : ∀ k, k ≤ oL p → ∀ τ : Sg, ((∀ x, x < 240 → τ.1 (v + 4) x = if (inR p x && decide (pl p x < k)) then nI (pl p x) else -1) ∧ (∀ x, x < pN p → inR p x = true → τ.1 (v + 5) (pl p x) = nI x) ∧ τ.1 v 15 = nI (oL p) ∧ (∀ j, j ≠ 15 → τ.1 v j = σ.1 v j) ∧ Fr [v, v + 4, v + 5] σ τ) → L48 (nI k) τ := by
    refine lup (L := fun k τ => L48 (nI k) τ) (fun k τ => (∀ x, x < 240 → τ.1 (v + 4) x = if (inR p x && decide (pl p x < k)) then nI (pl p x) else -1) ∧ (∀ x, x < pN p → inR p x = true → τ.1 (v + 5) (pl p x) = nI x) ∧ τ.1 v 15 = nI (oL p) ∧ (∀ j, j ≠ 15 → τ.1 v j = σ.1 v j) ∧ Fr [v, v + 4, v + 5] σ τ) (oL p) (fun τ ht => ?_) (fun k τ hk2 ht ih => ?_)
    · obtain ⟨a1, a2, a3, a4, a5⟩ := ht
      refine r48 _ _ ⟨fun _ => hK τ ⟨fun x hx => ?_, a2, a3⟩ a4 a5, fun c => absurd (by rw [a3]; exact Int32.le_refl _) c⟩
      rw [a1 x hx]
      cases hi : inR p x
      · rfl
      · have hxN : x < pN p := by
          apply hhd
          cases hq : phd p x
          · have : rcv p x = 0 := by unfold rcv; rw [hq]; rfl
            exact absurd this ((hRi x).mp hi)
          · rfl
        rw [decide_eq_true (show pl p x < oL p from rk_lt hxN hi)]
        rfl
    · obtain ⟨a1, a2, a3, a4, a5⟩ := ht
      obtain ⟨y, hy1, hy2, hy3⟩ := rk_surj (p := p) (inR p) (pN p) (by omega) k hk2
      have hy3 : pl p y = k := hy3
      have ey : τ.1 (v + 5) (nI k).toNatClampNeg = nI y := by rw [cl_nI (by omega), ← hy3]; exact a2 y hy1 hy2
      refine r48 _ _ ?_
      unfold f_X5_findOrder_48
      rw [a3, ey, cl_nI (show y < 2 ^ 31 by omega), nI_1]
      refine ⟨fun c => absurd c (nI_ge hk2 (by omega)), fun _ => ⟨v240 (by omega), v240 (by omega), ih _ ⟨fun x hx => ?_, fun x hx hi => ?_, ?_, fun j hj => ?_, Fr_pI a5 (by simp)⟩⟩⟩
      · rw [pI_at]
        by_cases e : x = y
        · rw [if_pos ⟨rfl, e⟩, e, hy2, hy3, decide_eq_true (Nat.lt_succ_self k)]
          rfl
        · rw [if_neg (fun q => e q.2), a1 x hx]
          cases hi : inR p x
          · rfl
          · have hne : pl p x ≠ k := fun z => by
              have h1 : rk p (inR p) (pN p) x = rk p (inR p) (pN p) y := z.trans hy3.symm
              have hxN : x < pN p := by
                apply hhd
                cases hq : phd p x
                · have : rcv p x = 0 := by unfold rcv; rw [hq]; rfl
                  exact absurd this ((hRi x).mp hi)
                · rfl
              rcases Nat.lt_trichotomy (key p x) (key p y) with q | q | q
              · have := rk_slt (p := p) (q := inR p) (M := pN p) hxN hi q; omega
              · exact e (key_inj (p := p) (by omega) (by omega) q)
              · have := rk_slt (p := p) (q := inR p) (M := pN p) hy1 hy2 q; omega
            have e2 : decide (pl p x < k) = decide (pl p x < k + 1) := decide_eq_decide.mpr (by omega)
            rw [e2]
      · rw [pI_at, if_neg (fun q => absurd q.1 (by omega))]
        exact a2 x hx hi
      · rw [pI_at, if_neg (fun q => absurd q.1 (by omega))]
        exact a3
      · rw [pI_at, if_neg (fun q => absurd q.1 (by omega))]
        exact a4 j hj
  have first : ∀ i, i ≤ pN p → ∀ τ : Sg, (SQ p (τ.1 (v + 5)) (inR p) i ∧ (∀ x, x < 240 → τ.1 (v + 4) x = -1) ∧ τ.1 v 15 = nI (cnt (inR p) i) ∧ (∀ j, j ≠ 15 → τ.1 v j = σ.1 v j) ∧ Fr [v, v + 4, v + 5] σ τ) → L15 (nI i) τ := by
    refine lup (L := fun i τ => L15 (nI i) τ) (fun i τ => SQ p (τ.1 (v + 5)) (inR p) i ∧ (∀ x, x < 240 → τ.1 (v + 4) x = -1) ∧ τ.1 v 15 = nI (cnt (inR p) i) ∧ (∀ j, j ≠ 15 → τ.1 v j = σ.1 v j) ∧ Fr [v, v + 4, v + 5] σ τ) (pN p) (fun τ ht => ?_) (fun i τ hi ht ih => ?_)
    · obtain ⟨a1, a2, a3, a4, a5⟩ := ht
      refine r15 _ _ ⟨fun _ => second 0 (Nat.zero_le _) τ ⟨fun x hx => ?_, fun x hx hi => a1 x hx hi, a3, a4, a5⟩, fun c => absurd (by rw [(a5 7 (by simp; omega)).1, h7]; exact Int32.le_refl _) c⟩
      rw [decide_eq_false (Nat.not_lt_zero _), Bool.and_false]
      exact a2 x hx
    · obtain ⟨a1, a2, a3, a4, a5⟩ := ht
      have hVt : Vb p v τ := hV.keep a5 (by simp) (a4 0 (by decide))
      have hUt : VU p v τ := hU.keep a5 (by simp) (by simp) (by simp) (by simp)
      have hRt : VR p v τ := hR.keep a5 (by simp) (by simp)
      have er : τ.1 (v + 2) (nI i).toNatClampNeg = nI (rcv p i) := by rw [cl_nI (by omega)]; exact hRt.1 i (by omega)
      have hrl := rcv_le (p := p) i
      refine r15 _ _ ?_
      unfold f_X5_findOrder_15
      rw [(a5 7 (by simp; omega)).1, h7, er]
      refine ⟨fun c => absurd c (nI_ge hi (by omega)), fun _ => ⟨v240 (by omega), fun c => ?_, fun c => ⟨p, i, hVt, hUt, hRt, rfl, hi, ?_, a1, a3, fun τ2 b1 b2 b3 b4 => ?_⟩⟩⟩
      · have hr0 : rcv p i = 0 := (nI_eq (b := 0) (by omega) (by omega)).mp c
        have hni : inR p i = false := by unfold inR; rw [hr0]; rfl
        have e1 : cnt (inR p) (i + 1) = cnt (inR p) i := by
          show _ + _ = _
          rw [hni]
          rfl
        show L15 (nI i + 1) τ
        rw [nI_1]
        refine ih τ ⟨fun y hy hiy => ?_, a2, by rw [e1]; exact a3, a4, a5⟩
        have : y ≠ i := fun e => by rw [e, hni] at hiy; cases hiy
        have e2 : rk p (inR p) (i + 1) y = rk p (inR p) i y := by rw [rk_succ, hni]; rfl
        show τ.1 (v + 5) (rk p (inR p) (i + 1) y) = nI y
        rw [e2]
        exact a1 y (by omega) hiy
      · exact (hRi i).mpr (fun q => c (by rw [q]; rfl))
      · show L15 (nI i + 1) τ2
        rw [nI_1]
        exact ih τ2 ⟨b1, fun x hx => by rw [(b4 (v + 4) (by simp)).1]; exact a2 x hx, b2, fun j hj => (b3 j hj).trans (a4 j hj), a5.trans (b4.mono (by simp))⟩
  refine ⟨by omega, first 0 (by omega) _ ⟨fun x hx => absurd hx (Nat.not_lt_zero _), fun x hx => ?_, ?_, fun j hj => ?_, Fr_pI (Fr_pR (Fr.refl _ _) (by simp)) (by simp)⟩⟩
  · rw [pI_at, if_neg (fun q => absurd q.1 (by omega)), pR_at, if_pos rfl, if_pos hx]
  · rw [pI_at, if_pos ⟨rfl, rfl⟩]
    rfl
  · rw [pI_at, if_neg (fun q => hj q.2), pR_at, if_neg (by omega)]
theorem at1_spec {k : Nat} : ∀ M, (∃ y, y < M ∧ inR p y = true ∧ pl p y = k) → at1 p k M < M ∧ inR p (at1 p k M) = true ∧ pl p (at1 p k M) = k
  | 0, ⟨y, h, _⟩ => absurd h (Nat.not_lt_zero _)
  | M + 1, ⟨y, h1, h2, h3⟩ => by
    show (if inR p M && decide (pl p M = k) then M else at1 p k M) < M + 1 ∧ inR p (if inR p M && decide (pl p M = k) then M else at1 p k M) = true ∧ pl p (if inR p M && decide (pl p M = k) then M else at1 p k M) = k
    by_cases c : (inR p M && decide (pl p M = k)) = true
    · rw [if_pos c]
      rw [Bool.and_eq_true, decide_eq_true_eq] at c
      exact ⟨Nat.lt_succ_self M, c⟩
    · rw [if_neg c]
      have : y ≠ M := fun e => c (by rw [← e, h2, h3]; simp)
      obtain ⟨q1, q2⟩ := at1_spec M ⟨y, by omega, h2, h3⟩
      exact ⟨by omega, q2⟩
theorem atk_spec (hN : pN p ≤ 240) {k : Nat} (hk : k < oL p) : atk p k < pN p ∧ inR p (atk p k) = true ∧ pl p (atk p k) = k := at1_spec (pN p) (rk_surj (p := p) (inR p) (pN p) (by omega) k hk)
theorem payF_congr {b b2 : Nat → Int32} {fr to : Nat} {am : Int32} (hf : fr < 8) (ht : to < 8) (h : ∀ c, c < 8 → b c = b2 c) : ∀ c, c < 8 → payF b fr to am c = payF b2 fr to am c := by
  intro c hc
  unfold payF
  rw [h fr hf]
  split
  · exact h c hc
  · have u : ∀ i, i < 8 → upd b fr (b2 fr - am) i = upd b2 fr (b2 fr - am) i := by
      intro i hi
      unfold upd
      split
      · rfl
      · exact h i hi
    rw [u to ht]
    unfold upd
    split
    · rfl
    · exact u c hc
theorem v_X5_findBalances (v : Nat) (_ : IsView v) (x1 : Int32) (σ : Sg) (K : Sg → Prop) (h : sp_X5_findBalances v x1 σ K) : vc_X5_findBalances v x1 σ K := by
  obtain ⟨p, hV, ⟨o1, o2, o3⟩, rfl, hK⟩ := h
  obtain ⟨hv, hP, hN, hE, hH, hTm, hTx, hk, hhd, hG, hL, h7⟩ := id hV
  intro L21 L39 r21 r39
  have hLx : oL p ≤ pN p := cnt_le _ _
  have hn8 := hP.2.2
  have outer : ∀ k, k ≤ oL p → ∀ τ : Sg, ((∀ c, c < 8 → τ.1 (v + 6) c = balk p k c) ∧ Fr [v + 6] σ τ) → L21 (nI k) τ := by
    refine lup (L := fun k τ => L21 (nI k) τ) (fun k τ => (∀ c, c < 8 → τ.1 (v + 6) c = balk p k c) ∧ Fr [v + 6] σ τ) (oL p) (fun τ ht => ?_) (fun k τ hk2 ht ih => ?_)
    · refine r21 _ _ ⟨fun _ => hK τ ht.1 ht.2, fun c => absurd (by rw [(ht.2 v (by simp)).1, o3]; exact Int32.le_refl _) c⟩
    · obtain ⟨y1, y2, y3⟩ := atk_spec hN hk2
      obtain ⟨x, hxe⟩ : ∃ x, x = atk p k := ⟨_, rfl⟩
      rw [← hxe] at y1 y2 y3
      obtain ⟨t1, t2, t3⟩ := hTx x y1
      have cx : (nI x).toNatClampNeg = x := cl_nI (by omega)
      have hcx := (hP.1 x y1).1
      have inner : ∀ i, i ≤ ptn p x → ∀ τ2 : Sg, ((∀ c, c < 8 → τ2.1 (v + 6) c = payE p x (balk p k) i c) ∧ Fr [v + 6] σ τ2) → L39 (nI k) (nI x) (nI i) τ2 := by
        refine lup (L := fun i τ2 => L39 (nI k) (nI x) (nI i) τ2) (fun i τ2 => (∀ c, c < 8 → τ2.1 (v + 6) c = payE p x (balk p k) i c) ∧ Fr [v + 6] σ τ2) (ptn p x) (fun τ2 hs => ?_) (fun i τ2 hi hs ih2 => ?_)
        · refine r39 _ _ _ _ ?_
          unfold f_X5_findBalances_39
          rw [cx, (hs.2 16 (by simp; omega)).1, t2]
          refine ⟨v240 (by omega), fun _ => ?_, fun c => absurd (Int32.le_refl _) c⟩
          rw [nI_1]
          refine ih τ2 ⟨fun c hc => ?_, hs.2⟩
          show _ = payE p (atk p k) (balk p k) (ptn p (atk p k)) c
          rw [← hxe]
          exact hs.1 c hc
        · obtain ⟨b1, b2⟩ := hs
          obtain ⟨u1, u2, u3⟩ := t3 i hi
          have ei : (nI x * 3) + nI i = nI (x * 3 + i) := by rw [show (3 : Int32) = nI 3 from rfl, pk_mul, nI_add]
          refine r39 _ _ _ _ ?_
          unfold f_X5_findBalances_39
          rw [cx, (b2 16 (by simp; omega)).1, t2, ei, cl_nI (show x * 3 + i < 2 ^ 31 by omega), (b2 12 (by simp; omega)).1, (b2 17 (by simp; omega)).1, (b2 18 (by simp; omega)).1, (hE x y1).1, u1, u2]
          refine ⟨v240 (by omega), fun c => absurd c (nI_ge hi (by omega)), fun _ => ⟨v240 (by omega), vp_in_nI (by omega) (by omega), vp_in_nI (by omega) (by omega), ?_⟩⟩
          have hto : (ptt p x i).toNatClampNeg < 8 := Nat.not_le.mp fun q => u3 (Or.inr q)
          have cc : (nI (gc (pg p) x)).toNatClampNeg = gc (pg p) x := cl_nI (by omega)
          have hvc : vp_in (nI (gc (pg p) x)) 8 := vp_in_nI hcx (by omega)
          have pc := payF_congr (am := pta p x i) hcx hto b1
          have pe : ∀ c, payE p x (balk p k) (i + 1) c = payF (payE p x (balk p k) i) (gc (pg p) x) (ptt p x i).toNatClampNeg (pta p x i) c := fun c => rfl
          show f_X5_pay_e v (nI (gc (pg p) x)) (ptt p x i) (pta p x i) (fun u12 => L39 (nI k) (nI x) (nI i + 1) u12) τ2
          unfold f_X5_pay_e
          rw [cc, nI_1]
          refine ⟨hvc, fun c => ?_, fun c => ⟨hvc, hvc, u3, u3, ?_⟩⟩
          · refine ih2 τ2 ⟨fun d hd => ?_, b2⟩
            rw [pe, ← pc d hd]
            unfold payF
            rw [if_pos c]
          · refine ih2 _ ⟨fun d hd => ?_, Fr_pI (Fr_pI b2 (by simp)) (by simp)⟩
            rw [pe, ← pc d hd]
            unfold payF
            rw [if_neg c, pI_upd, pI_upd]
      refine r21 _ _ ?_
      unfold f_X5_findBalances_21
      have e5 : τ.1 (v + 5) (nI k).toNatClampNeg = nI x := by
        rw [cl_nI (by omega), (ht.2 (v + 5) (by simp)).1, ← y3]
        exact o2 x y1 y2
      rw [(ht.2 v (by simp)).1, o3, e5]
      exact ⟨fun c => absurd c (nI_ge hk2 (by omega)), fun _ => ⟨v240 (by omega), inner 0 (Nat.zero_le _) τ ⟨ht.1, ht.2⟩⟩⟩
  refine ⟨by omega, by omega, 0, gn (pg p), rfl, rfl, Nat.zero_le _, hn8, outer 0 (Nat.zero_le _) _ ⟨fun c hc => ?_, Fr_pR (Fr_pR (Fr.refl _ _) (by simp)) (by simp)⟩⟩
  rw [pR_at, if_pos rfl]
  show (if 0 ≤ c ∧ c < gn (pg p) then 1000000 else _) = (if c < gn (pg p) then 1000000 else 0)
  by_cases e : c < gn (pg p)
  · rw [if_pos ⟨Nat.zero_le _, e⟩, if_pos e]
  · rw [if_neg (fun q => e q.2), if_neg e, pR_at, if_pos rfl, if_pos hc]
theorem v_X5_findAll (v : Nat) (_ : IsView v) (x1 : Int32) (σ : Sg) (K : Sg → Prop) (h : sp_X5_findAll v x1 σ K) : vc_X5_findAll v x1 σ K := by
  obtain ⟨p, hV, rfl, hK⟩ := h
  refine ⟨p, hV, fun τ1 a1 f1 => ?_⟩
  have g1 : τ1.1 v = σ.1 v := (f1 v (by simp)).1
  have V1 : Vb p v τ1 := hV.keep f1 (by simp) (by rw [g1])
  refine ⟨p, V1, a1, fun τ2 a2 f2 => ?_⟩
  have V2 : Vb p v τ2 := V1.keep f2 (by simp) (by rw [(f2 v (by simp)).1])
  refine ⟨p, V2, a2, fun τ3 b1 b2 b3 f3 => ?_⟩
  have V3 : Vb p v τ3 := V2.keep f3 (by simp) (b3 0 (by decide))
  have U3 : VU p v τ3 := a2.keep f3 (by simp) (by simp) (by simp) (by simp)
  refine ⟨p, V3, ⟨U3, b1⟩, fun τ4 a4 f4 => ?_⟩
  have V4 : Vb p v τ4 := V3.keep f4 (by simp) (by rw [(f4 v (by simp)).1])
  have U4 : VU p v τ4 := U3.keep f4 (by simp) (by simp) (by simp) (by simp)
  refine ⟨p, V4, U4, a4, fun τ5 a5 c5 f5 => ?_⟩
  have V5 : Vb p v τ5 := V4.keep f5 (by simp) (c5 0 (by decide))
  have U5 : VU p v τ5 := U4.keep f5 (by simp) (by simp) (by simp) (by simp)
  have R5 : VR p v τ5 := a4.keep f5 (by simp) (by simp)
  refine ⟨p, V5, a5, rfl, fun τ6 a6 f6 => ?_⟩
  have U6 : VU p v τ6 := U5.keep f6 (by simp) (by simp) (by simp) (by simp)
  have R6 : VR p v τ6 := R5.keep f6 (by simp) (by simp)
  have O6 : VO p v τ6 := ⟨fun x hx => by rw [(f6 (v + 4) (by simp)).1]; exact a5.1 x hx, fun x hx hi => by rw [(f6 (v + 5) (by simp)).1]; exact a5.2.1 x hx hi, by rw [(f6 v (by simp)).1]; exact a5.2.2⟩
  obtain ⟨τ7, e7⟩ : ∃ z, z = pI τ6 v 17 0 := ⟨_, rfl⟩
  have f7 : Fr [v] τ6 τ7 := by rw [e7]; exact Fr_pI (Fr.refl _ _) (by simp)
  have g7 : ∀ j, j ≠ 17 → τ7.1 v j = τ6.1 v j := fun j hj => by rw [e7, pI_at, if_neg (fun q => hj q.2)]
  show K (pI τ6 v 17 0)
  rw [← e7]
  have gv : ∀ j, j ≠ 16 → j ≠ 15 → j ≠ 17 → τ7.1 v j = σ.1 v j := fun j h1 h2 h3 => by
    rw [g7 j h3, (f6 v (by simp)).1, c5 j h2, (f4 v (by simp)).1, b3 j h1, (f2 v (by simp)).1, g1]
  refine hK τ7 ⟨U6.keep f7 (by simp) (by simp) (by simp) (by simp), R6.keep f7 (by simp) (by simp), ⟨fun x hx => by rw [(f7 (v + 4) (by simp)).1]; exact O6.1 x hx, fun x hx hi => by rw [(f7 (v + 5) (by simp)).1]; exact O6.2.1 x hx hi, by rw [g7 15 (by decide)]; exact O6.2.2⟩, fun c hc => by rw [(f7 (v + 6) (by simp)).1]; exact a6 c hc, ?_, ?_⟩ (gv 0 (by decide) (by decide) (by decide)) ?_
  · rw [g7 16 (by decide), (f6 v (by simp)).1, c5 16 (by decide), (f4 v (by simp)).1]
    exact b2
  · rw [e7, pI_at, if_pos ⟨rfl, rfl⟩]
  · exact (f1.mono (by simp)).trans ((f2.mono (by simp)).trans ((f3.mono (by simp)).trans ((f4.mono (by simp)).trans ((f5.mono (by simp)).trans ((f6.mono (by simp)).trans (f7.mono (by simp)))))))
end VIEW5
