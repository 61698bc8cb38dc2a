/-! ===== rows of bits again ===== -/
theorem bt_congr {σ τ : Sg} {t : Nat} (h : τ.2 (t + 1) = σ.2 (t + 1)) (r b : Nat) : bt τ t r b = bt σ t r b := by
  unfold bt
  rw [h]
theorem Fr.bt {S : List Nat} {σ τ : Sg} (h : Fr S σ τ) {t : Nat} (ht : t + 1 ∉ S) (r b : Nat) : bt τ t r b = bt σ t r b := bt_congr (h _ ht).2 r b
theorem bt_clearRow (σ : Sg) (t r r' b : Nat) (hb : b < 256) : bt (pS σ (t + 1) (fun j => if r * 4 ≤ j ∧ j < r * 4 + 4 then 0 else σ.2 (t + 1) j)) t r' b = if r' = r then false else bt σ t r' b := by
  unfold bt
  rw [pS_at, if_pos rfl]
  by_cases h : r' = r
  · subst h
    rw [if_pos rfl, if_pos (by omega)]
    simp
  · rw [if_neg h, if_neg (by omega)]
theorem bt_clear (σ : Sg) (t n r b : Nat) (hb : b < 256) (hr : r * 4 + 4 ≤ n) : bt (pS σ (t + 1) (fun j => if j < n then 0 else σ.2 (t + 1) j)) t r b = false := by
  unfold bt
  rw [pS_at, if_pos rfl, if_pos (by omega)]
  simp
theorem bt_put (σ : Sg) (t r b r' b' : Nat) (hb : b < 256) (hb' : b' < 256) : bt (bput σ t r b) t r' b' = (bt σ t r' b' || decide (r' = r ∧ b' = b)) := by
  unfold bt bput
  rw [pJ_at]
  by_cases h : r' * 4 + b' / 64 = r * 4 + b / 64
  · have h1 : r' = r := by omega
    have h2 : b' / 64 = b / 64 := by omega
    rw [if_pos ⟨rfl, h⟩, Int64.toBitVec_or, BitVec.getLsbD_or, lshl1_bv (Nat.mod_lt _ (by omega)), BitVec.getLsbD_twoPow, h]
    congr 1
    have h3 : b' % 64 < 64 := Nat.mod_lt _ (by omega)
    by_cases h4 : b' = b
    · subst h4; simp [h1, h3]
    · have h5 : ¬ b % 64 = b' % 64 := by omega
      simp [h4, h5]
  · rw [if_neg (fun e => h e.2)]
    have h1 : ¬ (r' = r ∧ b' = b) := by rintro ⟨rfl, rfl⟩; exact h rfl
    simp [h1]
theorem bt_join (σ : Sg) (t r t2 r2 r' b : Nat) (hb : b < 256) : bt (bjoin σ t r t2 r2) t r' b = if r' = r then (bt σ t r b || bt σ t2 r2 b) else bt σ t r' b := by
  unfold bt bjoin
  rw [pS_at, if_pos rfl]
  by_cases h : r' = r
  · subst h
    rw [if_pos rfl, if_pos (by omega), Int64.toBitVec_or, BitVec.getLsbD_or, show r2 * 4 + (r' * 4 + b / 64 - r' * 4) = r2 * 4 + b / 64 by omega]
  · rw [if_neg h, if_neg (by omega)]
theorem Fr_bput (σ : Sg) (t r b : Nat) : Fr [t + 1] σ (bput σ t r b) := Fr_pJ (Fr.refl _ _) (List.mem_singleton.mpr rfl)
theorem Fr_bjoin (σ : Sg) (t r t2 r2 : Nat) : Fr [t + 1] σ (bjoin σ t r t2 r2) := Fr_pS (Fr.refl _ _) (List.mem_singleton.mpr rfl)
theorem Fr_row (σ : Sg) (t : Nat) (f : Nat → Int64) : Fr [t + 1] σ (pS σ (t + 1) f) := Fr_pS (Fr.refl _ _) (List.mem_singleton.mpr rfl)
theorem bI_0 (b : Bool) : bI b = 0 ↔ b = false := by cases b <;> decide
theorem bI_1 (b : Bool) : ¬ bI b = 0 ↔ b = true := by cases b <;> decide
theorem isZ_bI (b : Bool) : isZ (bI b) := by
  cases b
  · exact isZ_0
  · exact isZ_1
/-! ===== pure facts of the graph ===== -/
theorem oA_congr {o : Option Nat} {p q : Nat → Bool} (h : ∀ s, o = some s → p s = q s) : oA o p = oA o q := by
  cases o with
  | none => rfl
  | some s => exact h s rfl
theorem oN_congr {o : Option Nat} {p q : Nat → Nat} (h : ∀ s, o = some s → p s = q s) : oN o p = oN o q := by
  cases o with
  | none => rfl
  | some s => exact h s rfl
theorem oA_iff {o : Option Nat} {p : Nat → Bool} : oA o p = true ↔ ∃ s, o = some s ∧ p s = true := by
  cases o with
  | none => simp [oA]
  | some s => simp [oA]
section GRAPH
variable {g : Gr} {N : Nat}
theorem anc_eq (h : POK g N) {x : Nat} (hx : x < N) (y : Nat) : anc g x y = (decide (y = x) || (oA (gs g x) (fun s => anc g s y) || oA (go g x) (fun s => anc g s y))) := by
  have e := fx_eq (d := fun _ => false) (F := anF g) x (fun f f2 hf => by
    funext z
    unfold anF
    rw [oA_congr (o := gs g x) (q := fun s => f2 s z) (fun s hs => by rw [hf s ((h.1 x hx).2.1 s hs).1]), oA_congr (o := go g x) (q := fun s => f2 s z) (fun s hs => by rw [hf s ((h.1 x hx).2.2.1 s hs)])])
  exact congrFun e y
theorem sa_eq (h : POK g N) {x : Nat} (hx : x < N) (y : Nat) : sa g x y = (decide (y = x) || oA (gs g x) (fun s => sa g s y)) := by
  have e := fx_eq (d := fun _ => false) (F := saF g) x (fun f f2 hf => by
    funext z
    unfold saF
    rw [oA_congr (o := gs g x) (q := fun s => f2 s z) (fun s hs => by rw [hf s ((h.1 x hx).2.1 s hs).1])])
  exact congrFun e y
theorem dep_eq (h : POK g N) {x : Nat} (hx : x < N) : dep g x = oN (gs g x) (dep g) + 1 :=
  fx_eq (d := 0) (F := deF g) x (fun f f2 hf => by
    unfold deF
    rw [oN_congr (o := gs g x) (q := f2) (fun s hs => hf s ((h.1 x hx).2.1 s hs).1)])
theorem anc_self (h : POK g N) {x : Nat} (hx : x < N) : anc g x x = true := by rw [anc_eq h hx]; simp
theorem sa_self (h : POK g N) {x : Nat} (hx : x < N) : sa g x x = true := by rw [sa_eq h hx]; simp
theorem anc_iff (h : POK g N) {x : Nat} (hx : x < N) (y : Nat) : anc g x y = true ↔ y = x ∨ (∃ s, gs g x = some s ∧ anc g s y = true) ∨ ∃ s, go g x = some s ∧ anc g s y = true := by
  rw [anc_eq h hx, Bool.or_eq_true, Bool.or_eq_true, decide_eq_true_eq, oA_iff, oA_iff]
theorem sa_iff (h : POK g N) {x : Nat} (hx : x < N) (y : Nat) : sa g x y = true ↔ y = x ∨ ∃ s, gs g x = some s ∧ sa g s y = true := by
  rw [sa_eq h hx, Bool.or_eq_true, decide_eq_true_eq, oA_iff]
theorem anc_le (h : POK g N) : ∀ x, x < N → ∀ y, anc g x y = true → y ≤ x := by
  intro x
  induction x using Nat.strongRecOn with
  | ind x ih =>
    intro hx y hy
    rcases (anc_iff h hx y).mp hy with rfl | ⟨s, hs, h2⟩ | ⟨s, hs, h2⟩
    · exact Nat.le_refl _
    · have hl := ((h.1 x hx).2.1 s hs).1
      have := ih s hl (by omega) y h2
      omega
    · have hl := (h.1 x hx).2.2.1 s hs
      have := ih s hl (by omega) y h2
      omega
theorem anc_big (h : POK g N) {x y : Nat} (hx : x < N) (hy : x < y) : anc g x y = false := by
  cases e : anc g x y
  · rfl
  · have := anc_le h x hx y e; omega
theorem sa_anc (h : POK g N) : ∀ x, x < N → ∀ y, sa g x y = true → anc g x y = true ∧ gc g y = gc g x := by
  intro x
  induction x using Nat.strongRecOn with
  | ind x ih =>
    intro hx y hy
    rcases (sa_iff h hx y).mp hy with rfl | ⟨s, hs, h2⟩
    · exact ⟨anc_self h hx, rfl⟩
    · obtain ⟨hl, hc⟩ := (h.1 x hx).2.1 s hs
      obtain ⟨a, b⟩ := ih s hl (by omega) y h2
      exact ⟨(anc_iff h hx y).mpr (Or.inr (Or.inl ⟨s, hs, a⟩)), b.trans hc⟩
theorem sa_le (h : POK g N) {x y : Nat} (hx : x < N) (hy : sa g x y = true) : y ≤ x := anc_le h x hx y (sa_anc h x hx y hy).1
theorem anc_trans (h : POK g N) : ∀ x, x < N → ∀ y z, anc g x y = true → anc g y z = true → anc g x z = true := by
  intro x
  induction x using Nat.strongRecOn with
  | ind x ih =>
    intro hx y z hy hz
    rcases (anc_iff h hx y).mp hy with rfl | ⟨s, hs, h2⟩ | ⟨s, hs, h2⟩
    · exact hz
    · have hl := ((h.1 x hx).2.1 s hs).1
      exact (anc_iff h hx z).mpr (Or.inr (Or.inl ⟨s, hs, ih s hl (by omega) y z h2 hz⟩))
    · have hl := (h.1 x hx).2.2.1 s hs
      exact (anc_iff h hx z).mpr (Or.inr (Or.inr ⟨s, hs, ih s hl (by omega) y z h2 hz⟩))
theorem sa_trans (h : POK g N) : ∀ x, x < N → ∀ y z, sa g x y = true → sa g y z = true → sa g x z = true := by
  intro x
  induction x using Nat.strongRecOn with
  | ind x ih =>
    intro hx y z hy hz
    rcases (sa_iff h hx y).mp hy with rfl | ⟨s, hs, h2⟩
    · exact hz
    · have hl := ((h.1 x hx).2.1 s hs).1
      exact (sa_iff h hx z).mpr (Or.inr ⟨s, hs, ih s hl (by omega) y z h2 hz⟩)
/-- two self-ancestors of one event are in a line -/
theorem sa_line (h : POK g N) : ∀ x, x < N → ∀ y z, sa g x y = true → sa g x z = true → sa g y z = true ∨ sa g z y = true := by
  intro x
  induction x using Nat.strongRecOn with
  | ind x ih =>
    intro hx y z hy hz
    rcases (sa_iff h hx y).mp hy with rfl | ⟨s, hs, h2⟩
    · exact Or.inl hz
    · rcases (sa_iff h hx z).mp hz with rfl | ⟨s2, hs2, h3⟩
      · exact Or.inr hy
      · rw [hs] at hs2
        cases hs2
        exact ih s ((h.1 x hx).2.1 s hs).1 (by have := ((h.1 x hx).2.1 s hs).1; omega) y z h2 h3
theorem dep_cnt (h : POK g N) : ∀ x, x < N → dep g x = cnt (sa g x) (x + 1) := by
  intro x
  induction x using Nat.strongRecOn with
  | ind x ih =>
    intro hx
    rw [dep_eq h hx]
    have e1 : cnt (sa g x) (x + 1) = cnt (sa g x) x + 1 := by
      show _ + _ = _
      rw [sa_self h hx]
      rfl
    rw [e1]
    congr 1
    cases hs : gs g x with
    | none =>
      refine (cnt_0 x (fun i hi => ?_)).symm
      cases e : sa g x i
      · rfl
      · rcases (sa_iff h hx i).mp e with rfl | ⟨s, hs2, -⟩
        · omega
        · rw [hs] at hs2; cases hs2
    | some s =>
      have hl := ((h.1 x hx).2.1 s hs).1
      show dep g s = _
      rw [ih s hl (by omega)]
      have e2 : cnt (sa g x) x = cnt (sa g x) (s + 1) := cnt_ext (by omega) (fun i h1 h2 => by
        cases e : sa g x i
        · rfl
        · rcases (sa_iff h hx i).mp e with rfl | ⟨s2, hs2, h3⟩
          · omega
          · rw [hs] at hs2
            cases hs2
            have := sa_le h (show s < N by omega) h3
            omega)
      rw [e2]
      refine cnt_congr _ (fun i hi => ?_)
      rw [sa_eq h hx, hs, decide_eq_false (show ¬ i = x by omega)]
      rfl
theorem cnt_lt {p q : Nat → Bool} {n : Nat} (h : ∀ i, i < n → p i = true → q i = true) {k : Nat} (hk : k < n) (h1 : p k = false) (h2 : q k = true) : cnt p n < cnt q n := by
  induction n with
  | zero => omega
  | succ n ih =>
    have hm := cnt_mono n (fun i hi => h i (by omega))
    show cnt p n + _ < cnt q n + _
    by_cases e : k = n
    · subst e
      rw [h1, h2]
      simp
      omega
    · have := ih (fun i hi => h i (by omega)) (by omega)
      have h3 := h n (by omega)
      cases hp : p n
      · simp; omega
      · rw [h3 hp]; simp; omega
theorem mx_ge {p : Nat → Bool} {f : Nat → Nat} : ∀ n i, i < n → p i = true → f i ≤ mx p f n
  | 0, i, h, _ => absurd h (Nat.not_lt_zero _)
  | n + 1, i, h, hp => by
    unfold mx
    by_cases e : i = n
    · subst e; rw [if_pos hp]; exact Nat.le_max_right _ _
    · have := mx_ge (p := p) (f := f) n i (by omega) hp
      split
      · exact Nat.le_trans this (Nat.le_max_left _ _)
      · exact this
theorem mx_at {p : Nat → Bool} {f : Nat → Nat} : ∀ n, mx p f n = 0 ∨ ∃ i, i < n ∧ p i = true ∧ mx p f n = f i
  | 0 => Or.inl rfl
  | n + 1 => by
    unfold mx
    by_cases hp : p n = true
    · rw [if_pos hp]
      by_cases hle : mx p f n ≤ f n
      · exact Or.inr ⟨n, by omega, hp, by omega⟩
      · rcases mx_at (p := p) (f := f) n with h | ⟨i, h1, h2, h3⟩
        · omega
        · exact Or.inr ⟨i, by omega, h2, by omega⟩
    · rw [if_neg hp]
      rcases mx_at (p := p) (f := f) n with h | ⟨i, h1, h2, h3⟩
      · exact Or.inl h
      · exact Or.inr ⟨i, by omega, h2, h3⟩
theorem frk_iff (y z : Nat) : frk g y z = true ↔ y ≠ z ∧ gc g y = gc g z ∧ sa g y z = false ∧ sa g z y = false := by
  unfold frk
  simp [Bool.and_eq_true]
theorem inA_iff (x c y : Nat) : inA g x c y = true ↔ anc g x y = true ∧ gc g y = c := by
  unfold inA
  simp [Bool.and_eq_true]
theorem forked_iff (h : POK g N) {x : Nat} (hx : x < N) (c : Nat) : forked g x c = true ↔ ∃ y z, inA g x c y = true ∧ inA g x c z = true ∧ frk g y z = true := by
  unfold forked
  rw [anyN_iff]
  constructor
  · rintro ⟨y, hy, h1⟩
    rw [Bool.and_eq_true, anyN_iff] at h1
    obtain ⟨h1, z, hz, h2⟩ := h1
    rw [Bool.and_eq_true] at h2
    exact ⟨y, z, h1, h2.1, h2.2⟩
  · rintro ⟨y, z, h1, h2, h3⟩
    obtain ⟨f1, f2, f3, f4⟩ := (frk_iff y z).mp h3
    have ly := anc_le h x hx y ((inA_iff x c y).mp h1).1
    have lz := anc_le h x hx z ((inA_iff x c z).mp h2).1
    rcases Nat.lt_or_ge z y with q | q
    · exact ⟨y, by omega, by rw [Bool.and_eq_true, anyN_iff]; exact ⟨h1, z, q, by rw [Bool.and_eq_true]; exact ⟨h2, h3⟩⟩⟩
    · exact ⟨z, by omega, by rw [Bool.and_eq_true, anyN_iff]; exact ⟨h2, y, by omega, by rw [Bool.and_eq_true]; exact ⟨h1, (frk_iff z y).mpr ⟨f1.symm, f2.symm, f4, f3⟩⟩⟩⟩
/-- no forks of a creator: as many as the deepest is deep -/
theorem forked_dm (h : POK g N) {x : Nat} (hx : x < N) (c : Nat) : forked g x c = true ↔ dm g x c < am g x c := by
  have mem : ∀ y, inA g x c y = true → y < x + 1 ∧ anc g x y = true ∧ gc g y = c := fun y hy => by
    obtain ⟨a, b⟩ := (inA_iff x c y).mp hy
    exact ⟨by have := anc_le h x hx y a; omega, a, b⟩
  have sub : ∀ m, inA g x c m = true → ∀ w, sa g m w = true → inA g x c w = true := by
    intro m hm w hw
    obtain ⟨l, a, b⟩ := mem m hm
    obtain ⟨p, q⟩ := sa_anc h m (by omega) w hw
    exact (inA_iff x c w).mpr ⟨anc_trans h x hx m w a p, q.trans b⟩
  have depc : ∀ m, m < x + 1 → dep g m = cnt (sa g m) (x + 1) := by
    intro m hm
    rw [dep_cnt h m (by omega)]
    exact (cnt_ext (by omega) (fun i h1 h2 => by
      cases e : sa g m i
      · rfl
      · have := sa_le h (show m < N by omega) e; omega)).symm
  rw [forked_iff h hx]
  constructor
  · rintro ⟨y, z, hy, hz, hf⟩
    obtain ⟨f1, f2, f3, f4⟩ := (frk_iff y z).mp hf
    rcases mx_at (p := inA g x c) (f := dep g) (x + 1) with e | ⟨m, h1, h2, h3⟩
    · show mx _ _ _ < cnt _ _
      rw [e]
      have : cnt (fun _ => false) (x + 1) < cnt (inA g x c) (x + 1) := cnt_lt (fun _ _ h => by cases h) (mem y hy).1 rfl hy
      omega
    · show mx _ _ _ < cnt _ _
      rw [h3, depc m h1]
      have hsub : ∀ i, i < x + 1 → sa g m i = true → inA g x c i = true := fun i _ hi => sub m h2 i hi
      cases ey : sa g m y
      · exact cnt_lt hsub (mem y hy).1 ey hy
      · cases ez : sa g m z
        · exact cnt_lt hsub (mem z hz).1 ez hz
        · rcases sa_line h m (by omega) y z ey ez with q | q
          · rw [q] at f3; cases f3
          · rw [q] at f4; cases f4
  · intro hlt
    apply Classical.byContradiction
    intro hno
    have line : ∀ y z, inA g x c y = true → inA g x c z = true → z < y → sa g y z = true := by
      intro y z hy hz hl
      cases e : sa g y z
      · refine absurd ⟨y, z, hy, hz, (frk_iff y z).mpr ⟨by omega, (mem y hy).2.2.trans (mem z hz).2.2.symm, e, ?_⟩⟩ hno
        cases e2 : sa g z y
        · rfl
        · have := sa_le h (show z < N by have := (mem z hz).1; omega) e2; omega
      · rfl
    have key : ∀ n, n ≤ x + 1 → cnt (inA g x c) n ≤ dm g x c := by
      intro n hn
      by_cases he : ∃ m, m < n ∧ inA g x c m = true
      · obtain ⟨k, ⟨hk1, hk2⟩, hk3⟩ := pk_least (fun d => d < n ∧ inA g x c (n - 1 - d) = true) (by
          obtain ⟨m, h1, h2⟩ := he
          exact ⟨n - 1 - m, by omega, by rw [show n - 1 - (n - 1 - m) = m by omega]; exact h2⟩)
        have hmx : ∀ i, i < n → inA g x c i = true → sa g (n - 1 - k) i = true := by
          intro i hi hii
          by_cases e : i = n - 1 - k
          · rw [e]; exact sa_self h (by omega)
          · refine line _ _ hk2 hii ?_
            apply Classical.byContradiction
            intro hq
            exact hk3 (n - 1 - i) (by omega) ⟨by omega, by rw [show n - 1 - (n - 1 - i) = i by omega]; exact hii⟩
        have h1 : cnt (inA g x c) n ≤ cnt (sa g (n - 1 - k)) n := cnt_mono n hmx
        have h2 : cnt (sa g (n - 1 - k)) n = dep g (n - 1 - k) := by
          rw [dep_cnt h _ (by omega)]
          exact cnt_ext (by omega) (fun i h1 h2 => by
            cases e : sa g (n - 1 - k) i
            · rfl
            · have := sa_le h (show n - 1 - k < N by omega) e; omega)
        have h3 : dep g (n - 1 - k) ≤ dm g x c := mx_ge (x + 1) (n - 1 - k) (by omega) hk2
        omega
      · rw [cnt_0 n (fun i hi => by
          cases e : inA g x c i
          · rfl
          · exact absurd ⟨i, hi, e⟩ he)]
        exact Nat.zero_le _
    have := key (x + 1) (Nat.le_refl _)
    have : am g x c ≤ dm g x c := this
    omega
end GRAPH
