section PUB4
variable {h : Hs} {σ : Sg} {Px : String → Sg → Prop}
/-- is it held, by the desk's own helper -/
theorem held_op {K : Int32 → Sg → Prop} {i : Nat} {x : Int32} (d : DI h σ) (hi : i < gn (hg h)) (h1 : ∀ e, e < hN h → x = nI e → nd (hN h) x = some e → hhd h i e = true → K 1 σ) (h2 : nd (hN h) x = none → K 0 σ) (h3 : ∀ e, nd (hN h) x = some e → hhd h i e = false → K 0 σ) : sp_X7_isHeld (nI i) x σ K := by
  obtain ⟨n1, n2, n3, n4, n5⟩ := di_n d
  refine event_op (by omega) n4 (fun e he hx hn => ⟨fun q => absurd q one_ne, fun _ => ?_⟩) (fun hn => ⟨fun _ => ⟨isZ_0, h2 hn⟩, fun q => absurd rfl q⟩)
  subst hx
  refine ⟨by decide, i, e, rfl, rfl, by omega, by omega, ?_⟩
  rw [d.1.2.2.2.1.2 i e (by omega) (by omega)]
  refine ⟨fun q => ⟨isZ_0, h3 e hn ((bI_0 _).mp q)⟩, fun q => ⟨isZ_1, h1 e he rfl hn ((bI_1 _).mp q)⟩⟩
theorem nO_inj {p q : Option Nat} (hp : ∀ y, p = some y → y < 2 ^ 31) (hq : ∀ y, q = some y → y < 2 ^ 31) (e : nO p = nO q) : p = q := by
  cases p with
  | none =>
    cases q with
    | none => rfl
    | some y => exact absurd e.symm (nO_some (hq y rfl))
  | some x =>
    cases q with
    | none => exact absurd e (nO_some (hp x rfl))
    | some y => rw [(nI_eq (hp x rfl) (hq y rfl)).mp e]
theorem g_inject {K : Int32 → Sg → Prop} {x c s o : Int32} {t : Int64} (d : DI h σ) (hK : (opInject h x c s o t).1 = 0 → ∀ τ, DI (opInject h x c s o t).2.2 τ → K (opInject h x c s o t).2.1 τ) (h1 : (opInject h x c s o t).1 = 1 → Px xIA σ) (h2 : (opInject h x c s o t).1 = 2 → Px xIS σ) (h3 : (opInject h x c s o t).1 = 3 → Px xIO σ) : sp_X7_inject x c s o t σ K Px := by
  obtain ⟨n1, n2, n3, n4, n5⟩ := di_n d
  obtain ⟨hC, d0, dE, dH, hG, hE, h7, hW⟩ := id d.1
  have hP := hC.2.2.1
  refine node_op (by omega) n1 (fun i hi hx hn => ?_) (fun hn => ⟨fun _ => h1 (by unfold opInject; rw [hn]), fun q => absurd rfl q⟩)
  refine ⟨fun q => absurd q one_ne, fun _ => node_op (by omega) n1 (fun j hj hy hn2 => ?_) (fun hn2 => ⟨fun _ => h1 (by unfold opInject; rw [hn, hn2]), fun q => absurd rfl q⟩)⟩
  have e0 : opInject h x c s o t = if i = j then (1, 0, h) else match nd (hN h) s with
    | some sx => if hhd h i sx = true ∧ gc (hg h) sx = j then (match injO h i j o with
      | none => (1, 0, h)
      | some oo => if anyN (sameE h j sx oo t) (hN h) then (2, 0, h) else if hN h = 240 then (3, 0, h) else (0, nI (hN h), hinj h i j sx oo t)) else (1, 0, h)
    | none => (1, 0, h) := by unfold opInject; rw [hn, hn2] <;> rfl
  subst hx hy
  refine ⟨fun q => absurd q one_ne, fun _ => ⟨fun q => ?_, fun q => h1 (by rw [e0, if_pos ((nI_eq (by omega) (by omega)).mp q)])⟩⟩
  have hij : ¬ i = j := fun z => q (by rw [z])
  rw [if_neg hij] at e0
  refine held_op d hi (fun sx hs hsx hn3 hh => ?_) (fun hn3 => ⟨fun _ => h1 (by rw [e0, hn3]), fun z => absurd rfl z⟩) (fun e hn3 hh => ⟨fun _ => h1 (by rw [e0, hn3]; show (if hhd h i e = true ∧ gc (hg h) e = j then _ else _ : Nat × Int32 × Hs).1 = 1; rw [if_neg (fun z => by rw [hh] at z; exact absurd z.1 (by decide))]), fun z => absurd rfl z⟩)
  have e1 : opInject h (nI i) (nI j) s o t = if hhd h i sx = true ∧ gc (hg h) sx = j then (match injO h i j o with
      | none => (1, 0, h)
      | some oo => if anyN (sameE h j sx oo t) (hN h) then (2, 0, h) else if hN h = 240 then (3, 0, h) else (0, nI (hN h), hinj h i j sx oo t)) else (1, 0, h) := by rw [e0, hn3]
  subst hsx
  have cs : (nI sx).toNatClampNeg = sx := cl_nI (by omega)
  refine ⟨fun q => absurd q one_ne, fun _ => ?_⟩
  rw [cs, (dE.1 sx hs).1]
  have hcs := (hP.1 sx hs).1
  refine ⟨v240 (by omega), fun q2 => ?_, fun q2 => h1 (by rw [e1, if_neg (fun z => q2 (by rw [z.2]))])⟩
  have gcs : gc (hg h) sx = j := (nI_eq (by omega) (by omega)).mp q2
  rw [if_pos ⟨hh, gcs⟩] at e1
  -- what follows once the other parent is known
  have fin : ∀ oo : Option Nat, injO h i j o = some oo → o = nO oo → (∀ y, oo = some y → y < hN h) → f_X7_inject_97 (nI i) (nI j) (nI sx) o t K Px σ := by
    intro oo ho hoe holt
    have e2 : opInject h (nI i) (nI j) (nI sx) o t = if anyN (sameE h j sx oo t) (hN h) then (2, 0, h) else if hN h = 240 then (3, 0, h) else (0, nI (hN h), hinj h i j sx oo t) := by rw [e1, ho]
    refine ⟨hN h, n5, n4, ?_⟩
    have esame : anyN (fun x => decide (σ.1 12 x = nI j) && (decide (σ.1 13 x = nI sx) && (decide (σ.1 14 x = o) && (decide (σ.2 15 x = t) && decide (σ.1 16 x = 0))))) (hN h) = anyN (sameE h j sx oo t) (hN h) := by
      refine anyN_congr _ (fun y hy => ?_)
      show (decide (σ.1 12 y = nI j) && (decide (σ.1 13 y = nI sx) && (decide (σ.1 14 y = o) && (decide (σ.2 15 y = t) && decide (σ.1 16 y = 0))))) = sameE h j sx oo t y
      obtain ⟨a1, a2, a3⟩ := dE.1 y hy
      have ax := (dE.2.2.2 y hy).1
      obtain ⟨p1, p2, p3, p4⟩ := hP.1 y hy
      have t3 := (hC.2.2.2.2.1 y hy).1
      unfold sameE
      rw [a1, a2, a3, dE.2.2.1 y hy, ax, hoe]
      have b1 : (nI (gc (hg h) y) = nI j) ↔ gc (hg h) y = j := nI_eq (by omega) (by omega)
      have b2 : (nO (gs (hg h) y) = nI sx) ↔ gs (hg h) y = some sx := ⟨fun z => nO_inj (fun w hw => by have := (p2 w hw).1; omega) (fun w hw => by cases hw; omega) (z.trans rfl), fun z => by rw [z]; rfl⟩
      have b3 : (nO (go (hg h) y) = nO oo) ↔ go (hg h) y = oo := ⟨fun z => nO_inj (fun w hw => by have := p3 w hw; omega) (fun w hw => by have := holt w hw; omega) z, fun z => by rw [z]⟩
      have b4 : (nI (htn h y) = 0) ↔ htn h y = 0 := nI_eq (a := htn h y) (b := 0) (by omega) (by decide)
      simp only [b1, b2, b3, b4]
    rw [esame]
    refine ⟨fun q3 => ?_, fun q3 => h2 ?_⟩
    · rw [bI_0] at q3
      rw [if_neg (by rw [q3]; decide)] at e2
      show f_X2_isFull_e _ σ
      unfold f_X2_isFull_e
      rw [n4]
      refine ⟨fun q => ⟨isZ_0, fun _ => ?_, fun z => absurd rfl z⟩, fun q => ⟨isZ_1, fun z => absurd z one_ne, fun _ => h3 (by rw [e2, if_pos ((nI_eq (by omega) (by decide)).mp q)])⟩⟩
      have hNlt : hN h < 240 := by
        have : hN h ≠ 240 := fun z => q (by rw [z]; rfl)
        omega
      rw [if_neg (by omega)] at e2
      rw [e2] at hK
      have M : MkOK h j (some sx) oo 0 := ⟨hNlt, hj, fun y hy => (by cases hy; exact ⟨hs, gcs⟩), holt, fun z => (by cases z), by decide, Nat.zero_le _⟩
      subst hoe
      refine mkgv_ok (H := h) (node := i) (s := some sx) (o := oo) d.1 M hi (fun k hk _ => d.2.2.2 k hk) (d.2.2.2 i (by omega)).1 (fun τ' d' v' f2 => ?_)
      refine hK rfl τ' ⟨d', fun k hk => ?_, fun k hk => ?_, v'⟩
      · obtain ⟨z1, z2⟩ := d.2.1 k hk
        show hlat h k < hN h + 1 ∧ uN (gc (hg h)) (hN h) j (hlat h k) = k
        rw [uN_ne _ _ (by omega)]
        exact ⟨by omega, z2⟩
      · rw [f2]
        exact d.2.2.1 k hk
    · rw [bI_1] at q3
      rw [e2, if_pos q3]
  refine ⟨fun q3 => ?_, fun q3 => ?_⟩
  · refine fin none ?_ q3 (fun y hy => by cases hy)
    unfold injO
    rw [if_pos q3]
  · have eo : injO h i j o = match nd (hN h) o with
      | some ox => if hhd h i ox = true ∧ gc (hg h) ox ≠ j then some (some ox) else none
      | none => none := by unfold injO; rw [if_neg q3] <;> rfl
    refine held_op d hi (fun ox hox hoe hn4 hh2 => ?_) (fun hn4 => ⟨fun _ => h1 (by rw [e1, eo, hn4]), fun z => absurd rfl z⟩) (fun e hn4 hh2 => ⟨fun _ => h1 ?_, fun z => absurd rfl z⟩)
    · have eo2 : injO h i j o = if hhd h i ox = true ∧ gc (hg h) ox ≠ j then some (some ox) else none := by rw [eo, hn4]
      subst hoe
      have co : (nI ox).toNatClampNeg = ox := cl_nI (by omega)
      refine ⟨fun z => absurd z one_ne, fun _ => ?_⟩
      rw [co, (dE.1 ox hox).1]
      have hco := (hP.1 ox hox).1
      refine ⟨v240 (by omega), fun q4 => fin (some ox) ?_ rfl (fun y hy => by cases hy; exact hox), fun q4 => h1 ?_⟩
      · rw [eo2, if_pos ⟨hh2, fun z => q4 (by rw [z])⟩]
      · have : gc (hg h) ox = j := (nI_eq (by omega) (by omega)).mp q4
        rw [if_neg (fun z => z.2 this)] at eo2
        rw [e1, eo2]
    · have eo2 : injO h i j o = if hhd h i e = true ∧ gc (hg h) e ≠ j then some (some e) else none := by rw [eo, hn4]
      rw [if_neg (fun z => by rw [hh2] at z; exact absurd z.1 (by decide))] at eo2
      rw [e1, eo2]
end PUB4
