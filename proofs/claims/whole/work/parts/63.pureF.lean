/-! ===== the desk's own: an event made, a new start ===== -/
section MK
variable {h : Hs} {c : Nat} {s o : Option Nat} {t : Int64} {k : Nat}
theorem mk_old (x : Nat) (hx : x < hN h) : gc (hg (hmk h c s o t k)) x = gc (hg h) x ∧ gs (hg (hmk h c s o t k)) x = gs (hg h) x ∧ go (hg (hmk h c s o t k)) x = go (hg h) x := ⟨uN_ne _ _ (by omega), uN_ne _ _ (by omega), uN_ne _ _ (by omega)⟩
theorem mk_new : gc (hg (hmk h c s o t k)) (hN h) = c ∧ gs (hg (hmk h c s o t k)) (hN h) = s ∧ go (hg (hmk h c s o t k)) (hN h) = o ∧ htm (hmk h c s o t k) (hN h) = t ∧ htn (hmk h c s o t k) (hN h) = k ∧ htt (hmk h c s o t k) (hN h) = hwt h c ∧ hta (hmk h c s o t k) (hN h) = hwa h c := ⟨uN_at _ _ _, uN_at _ _ _, uN_at _ _ _, uN_at _ _ _, uN_at _ _ _, uN_at _ _ _, uN_at _ _ _⟩
theorem ag_mk : AG (hg h) (hg (hmk h c s o t k)) (hN h) := ⟨rfl, fun x hx => mk_old x hx⟩
theorem pok_mk (hc : HC h) (m : MkOK h c s o k) : POK (hg (hmk h c s o t k)) (hN h + 1) := by
  obtain ⟨c1, c2, ⟨p1, p2, p3⟩, c4, c5, c6, c7⟩ := hc
  obtain ⟨m1, m2, m3, m4, m5, m6, m7⟩ := m
  obtain ⟨n1, n2, n3, -⟩ := mk_new (h := h) (c := c) (s := s) (o := o) (t := t) (k := k)
  refine ⟨fun x hx => ?_, fun x y hx hy sx sy e => ?_, p3⟩
  · by_cases e : x = hN h
    · subst e
      rw [n1, n2, n3]
      refine ⟨by omega, fun y hy => ⟨(m3 y hy).1, ?_⟩, m4, fun q => (m5 q).1⟩
      rw [(mk_old y (m3 y hy).1).1]
      exact (m3 y hy).2
    · obtain ⟨o1, o2, o3⟩ := mk_old (h := h) (c := c) (s := s) (o := o) (t := t) (k := k) x (by omega)
      obtain ⟨a1, a2, a3, a4⟩ := p1 x (by omega)
      rw [o1, o2, o3]
      refine ⟨a1, fun y hy => ⟨(a2 y hy).1, ?_⟩, a3, a4⟩
      have := (a2 y hy).1
      rw [(mk_old y (by omega)).1]
      exact (a2 y hy).2
  · by_cases ex : x = hN h
    · by_cases ey : y = hN h
      · omega
      · obtain ⟨o1, o2, o3⟩ := mk_old (h := h) (c := c) (s := s) (o := o) (t := t) (k := k) y (by omega)
        subst ex
        rw [n2] at sx
        rw [o2] at sy
        rw [n1, o1] at e
        exact absurd e.symm ((m5 sx).2 y (by omega) sy)
    · obtain ⟨q1, q2, q3⟩ := mk_old (h := h) (c := c) (s := s) (o := o) (t := t) (k := k) x (by omega)
      rw [q2] at sx
      rw [q1] at e
      by_cases ey : y = hN h
      · subst ey
        rw [n2] at sy
        rw [n1] at e
        exact absurd e ((m5 sy).2 x (by omega) sx)
      · obtain ⟨o1, o2, o3⟩ := mk_old (h := h) (c := c) (s := s) (o := o) (t := t) (k := k) y (by omega)
        rw [o2] at sy
        rw [o1] at e
        exact p2 x y (by omega) (by omega) sx sy e
theorem hc_mk (hc : HC h) (m : MkOK h c s o k) : HC (hmk h c s o t k) := by
  have hp := pok_mk (t := t) hc m
  obtain ⟨c1, c2, c3, c4, c5, c6, c7⟩ := hc
  obtain ⟨m1, m2, m3, m4, m5, m6, m7⟩ := m
  have hc8 : c < 8 := by have := c3.2.2; omega
  refine ⟨c1, (show hN h + 1 ≤ 240 by omega), hp, fun x hx => ?_, fun x hx => ?_, fun j x q => ?_, fun j hj => ?_⟩
  · have hx2 : x < hN h + 1 := hx
    show uN (gc (hg h)) (hN h) c x < gn (hg h)
    unfold uN
    split
    · exact m2
    · exact c4 x (by omega)
  · have hx2 : x < hN h + 1 := hx
    show uN (htn h) (hN h) k x ≤ 3 ∧ ∀ i, i < uN (htn h) (hN h) k x → vp_in (uN (htt h) (hN h) (hwt h c) x i) 8
    by_cases e : x = hN h
    · subst e
      rw [uN_at, uN_at]
      exact ⟨m6, fun i hi => (c7 c hc8).2.1 i (by omega)⟩
    · rw [uN_ne _ _ e, uN_ne _ _ e]
      exact c5 x (by omega)
  · have := c6 j x q
    exact ⟨(show x < hN h + 1 by omega), this.2⟩
  · obtain ⟨d1, d2, d3⟩ := c7 j hj
    show uN (hwn h) c (hwn h c - k) j ≤ 8 ∧ (∀ i, i < uN (hwn h) c (hwn h c - k) j → vp_in (uN (hwt h) c (fun z => hwt h c (z + k)) j i) 8) ∧ (gn (hg h) ≤ j → uN (hwn h) c (hwn h c - k) j = 0)
    by_cases e : j = c
    · subst e
      rw [uN_at, uN_at]
      exact ⟨by omega, fun i hi => d2 (i + k) (by omega), fun q => by omega⟩
    · rw [uN_ne _ _ e, uN_ne _ _ e]
      exact ⟨d1, d2, d3⟩
theorem hsF_mk (x : Nat) (hx : x < hN h) (f : Nat → Nat → Int32) : hsF (hmk h c s o t k) f x = hsF h f x := by
  obtain ⟨o1, o2, o3⟩ := mk_old (h := h) (c := c) (s := s) (o := o) (t := t) (k := k) x hx
  unfold hsF
  rw [o1, o2, o3, show htm (hmk h c s o t k) x = htm h x from uN_ne _ _ (by omega), show htn (hmk h c s o t k) x = htn h x from uN_ne _ _ (by omega), show htt (hmk h c s o t k) x = htt h x from uN_ne _ _ (by omega), show hta (hmk h c s o t k) x = hta h x from uN_ne _ _ (by omega)]
theorem hsh_mk (x : Nat) (hx : x < hN h) : hsh (hmk h c s o t k) x = hsh h x := fx_cong (fun y hy f => hsF_mk y hy f) x hx
theorem hsh_new (m : MkOK h c s o k) : hsh (hmk h c s o t k) (hN h) = shaF (evL (nI c) (phO (hsh h) s) (phO (hsh h) o) t k (hwt h c) (hwa h c)) := by
  obtain ⟨n1, n2, n3, n4, n5, n6, n7⟩ := mk_new (h := h) (c := c) (s := s) (o := o) (t := t) (k := k)
  obtain ⟨m1, m2, m3, m4, m5, m6, m7⟩ := m
  have pc : ∀ (f g : Nat → Nat → Int32) (q : Option Nat), (∀ y, q = some y → f y = g y) → phO f q = phO g q := fun f g q hq => by
    cases q with
    | none => rfl
    | some y =>
      funext w
      show f y w = g y w
      rw [hq y rfl]
  have e1 : hsh (hmk h c s o t k) (hN h) = hsF (hmk h c s o t k) (hsh (hmk h c s o t k)) (hN h) := fx_eq (F := hsF (hmk h c s o t k)) (hN h) (fun f g hfg => by
    unfold hsF
    rw [n2, n3, pc f g s (fun y hy => hfg y (m3 y hy).1), pc f g o (fun y hy => hfg y (m4 y hy))])
  rw [e1]
  unfold hsF
  rw [n1, n2, n3, n4, n5, n6, n7, pc _ (hsh h) s (fun y hy => hsh_mk y (m3 y hy).1), pc _ (hsh h) o (fun y hy => hsh_mk y (m4 y hy))]
theorem av_mk (hc : HC h) (i : Nat) : AV (vp h i) (vp (hmk h c s o t k) i) := by
  refine ⟨ag_mk (t := t) (k := k), hc.2.2.1, Nat.le_succ _, fun x hx => ⟨hsh_mk x hx, uN_ne _ _ (Nat.ne_of_lt hx), uN_ne _ _ (Nat.ne_of_lt hx), uN_ne _ _ (Nat.ne_of_lt hx), uN_ne _ _ (Nat.ne_of_lt hx)⟩, rfl, fun x hx => (hc.2.2.2.2.2.1 i x hx).1⟩
end MK
section AGT
variable {g g2 : Gr} {N : Nat} {σ : Sg}
theorem sumT_congr {f f2 : Nat → Nat} : ∀ n, (∀ i, i < n → f i = f2 i) → sumT f n = sumT f2 n
  | 0, _ => rfl
  | n + 1, q => by
    show sumT f n + f n = sumT f2 n + f2 n
    rw [sumT_congr n (fun i hi => q i (by omega)), q n (by omega)]
theorem mx_congr {p p2 : Nat → Bool} {f f2 : Nat → Nat} : ∀ n, (∀ i, i < n → p i = p2 i ∧ f i = f2 i) → mx p f n = mx p2 f2 n
  | 0, _ => rfl
  | n + 1, q => by
    show (if p n then max (mx p f n) (f n) else mx p f n) = (if p2 n then max (mx p2 f2 n) (f2 n) else mx p2 f2 n)
    rw [mx_congr n (fun i hi => q i (by omega)), (q n (by omega)).1, (q n (by omega)).2]
theorem TB.far {t M : Nat} {p q : Nat → Nat → Bool} (h : TB t M p σ) (e : ∀ x y, x < M → y < 256 → q x y = p x y) : TB t M q σ := fun x y hx hy => (h x y hx hy).trans (e x y hx hy).symm
theorem ag_see2 (hA : AG g g2 N) (hP : POK g N) {x y : Nat} (hx : x < N) : see g2 x y = see g x y := by
  by_cases hy : y < N
  · exact ag_see hA hx hy
  · have e : anc g x y = false := by
      cases q : anc g x y
      · rfl
      · have := anc_le hP x hx y q; omega
    unfold see
    rw [ag_anc hA hx, e]
    simp only [Bool.false_and]
theorem ag_str2 (hA : AG g g2 N) (hP : POK g N) {x y : Nat} (hx : x < N) : str g2 x y = str g x y := by
  have e : ∀ c, thr g2 x y c = thr g x y c := fun c => by
    unfold thr
    refine anyN_congr (x + 1) (fun z hz => ?_)
    rw [(hA.2 z (by omega)).1, ag_see hA hx (show z < N by omega), ag_see2 hA hP (show z < N by omega)]
  unfold str most
  rw [hA.1, cnt_congr 8 (fun c _ => e c)]
theorem ag_frk2 (hA : AG g g2 N) {x : Nat} (hx : x < N) : cnt (frk g2 x) x = cnt (frk g x) x := cnt_congr x (fun y hy => ag_frk hA hx (by omega))
theorem GT.ag (hA : AG g g2 N) (hP : POK g N) (h : GT g N σ) : GT g2 N σ := by
  obtain ⟨t1, t2, t3, t4, t5, t6, t7, t8, t9, t10⟩ := h
  refine ⟨t1.far (fun x y hx _ => by rw [ag_anc hA hx]), t2.far (fun x y hx _ => ag_see2 hA hP hx), t3.far (fun x y hx _ => ag_str2 hA hP hx), fun x hx => by rw [ag_dep hA hx]; exact t4 x hx, fun x hx => by rw [ag_rnd hA hx, ag_wit hA hP hx]; exact t5 x hx, fun c hc => ?_, by rw [hA.1]; exact t7, ?_, ?_, t10⟩
  · rw [t6 c hc, cnt_congr (q := fun y => decide (gc g2 y = c)) N (fun y hy => by
      show decide (gc g y = c) = decide (gc g2 y = c)
      rw [(hA.2 y hy).1])]
  · rw [t8]
    unfold FK
    rw [sumT_congr N (fun x hx => ag_frk2 hA hx)]
  · rw [t9]
    unfold mxR
    rw [mx_congr N (fun x hx => ⟨rfl, ag_rnd hA hx⟩)]
theorem EL.ag {hb hb2 : Nat → Bool} (hA : AG g g2 N) (hP : POK g N) (hP2 : POK g2 N) (hh : ∀ y, y < N → hb2 y = hb y) (h : EL g hb N σ) : EL g2 hb2 N σ := by
  obtain ⟨t1, t2, t3, t4, t5, t6⟩ := h
  have ew : ∀ n, n ≤ N → cnt (wit g2) n = cnt (wit g) n := fun n hn => cnt_congr n (fun i hi => ag_wit hA hP (by omega))
  have ee : ∀ y z, y < N → el g2 y z = el g y z := fun y z hy => by
    by_cases hz : z < N
    · exact ag_el hA hP hy hz
    · have a1 : el g2 y z = false := by
        cases q : el g2 y z
        · rfl
        · have := el_lt hP2 hy q; omega
      have a2 : el g y z = false := by
        cases q : el g y z
        · rfl
        · have := el_lt hP hy q; omega
      rw [a1, a2]
  have eq2 : ∀ (x b : Nat) (P P2 : Bool), x < N → (b < N → P2 = P) → (vq g2 hb2 N x b && P2) = (vq g hb N x b && P) := fun x b P P2 hx hp => by
    by_cases hb : b < N
    · unfold vq
      rw [hp hb, ag_wit hA hP hb, ag_rnd hA hx, ag_rnd hA hb]
    · unfold vq
      rw [decide_eq_false hb]
      simp only [Bool.false_and]
  refine ⟨by rw [ew N (Nat.le_refl _)]; exact t1, by rw [hA.1]; exact t2, fun x hx hw => ?_, fun y b hy hw hb => ?_, fun x b hx hw hb => ?_, fun x b hx hw hb => ?_⟩
  · rw [ag_wit hA hP hx] at hw
    rw [ew x (by omega)]
    exact t3 x hx hw
  · rw [ag_wit hA hP hy] at hw
    rw [ee y b hy]
    exact t4 y b hy hw hb
  · rw [ag_wit hA hP hx] at hw
    rw [t5 x b hx hw hb]
    exact (eq2 x b _ _ hx (fun hb => by rw [ag_vt hA hP hh hx hb])).symm
  · rw [ag_wit hA hP hx] at hw
    rw [t6 x b hx hw hb]
    exact (eq2 x b _ _ hx (fun hb => by rw [ag_vt hA hP hh hx hb])).symm
end AGT
theorem hl_congr {p q : Nat → Int32} : ∀ k, (∀ w, w < k → p w = q w) → hl p k = hl q k
  | 0, _ => rfl
  | k + 1, e => by
    show hl p k ++ oct4 (p k) = hl q k ++ oct4 (q k)
    rw [hl_congr k (fun w hw => e w (by omega)), e k (by omega)]
theorem txl_congr {to am to2 am2 : Nat → Int32} : ∀ k, (∀ i, i < k → to i = to2 i ∧ am i = am2 i) → txl to am k = txl to2 am2 k
  | 0, _ => rfl
  | k + 1, e => by
    show txl to am k ++ ((to k &&& 255) :: oct4 (am k)) = txl to2 am2 k ++ ((to2 k &&& 255) :: oct4 (am2 k))
    rw [txl_congr k (fun i hi => e i (by omega)), (e k (by omega)).1, (e k (by omega)).2]
theorem evL_congr {c : Int32} {p1 p2 q1 q2 : Nat → Int32} {t : Int64} {n : Nat} {to am to2 am2 : Nat → Int32} (h1 : ∀ w, w < 8 → p1 w = q1 w) (h2 : ∀ w, w < 8 → p2 w = q2 w) (h3 : ∀ i, i < n → to i = to2 i ∧ am i = am2 i) : evL c p1 p2 t n to am = evL c q1 q2 t n to2 am2 := by
  unfold evL
  rw [hl_congr 8 h1, hl_congr 8 h2, txl_congr n h3]
