/-! ===== the history; what is found stays as the history grows ===== -/
abbrev Hs : Type := Gr × (Nat → Int64) × (Nat → Nat) × (Nat → Nat → Int32) × (Nat → Nat → Int32) × Nat × (Nat → Nat → Bool) × (Nat → Nat) × (Nat → Nat) × (Nat → Nat → Int32) × (Nat → Nat → Int32)
def hg (h : Hs) : Gr := h.1
def htm (h : Hs) : Nat → Int64 := h.2.1
def htn (h : Hs) : Nat → Nat := h.2.2.1
def htt (h : Hs) : Nat → Nat → Int32 := h.2.2.2.1
def hta (h : Hs) : Nat → Nat → Int32 := h.2.2.2.2.1
def hN (h : Hs) : Nat := h.2.2.2.2.2.1
def hhd (h : Hs) : Nat → Nat → Bool := h.2.2.2.2.2.2.1
def hlat (h : Hs) : Nat → Nat := h.2.2.2.2.2.2.2.1
def hwn (h : Hs) : Nat → Nat := h.2.2.2.2.2.2.2.2.1
def hwt (h : Hs) : Nat → Nat → Int32 := h.2.2.2.2.2.2.2.2.2.1
def hwa (h : Hs) : Nat → Nat → Int32 := h.2.2.2.2.2.2.2.2.2.2
def phO (f : Nat → Nat → Int32) (o : Option Nat) (w : Nat) : Int32 := match o with
  | none => 0
  | some y => f y w
def hsF (h : Hs) (f : Nat → Nat → Int32) (x : Nat) : Nat → Int32 := shaF (evL (nI (gc (hg h) x)) (phO f (gs (hg h) x)) (phO f (go (hg h) x)) (htm h x) (htn h x) (htt h x) (hta h x))
/-- the words of the hashes -/
def hsh (h : Hs) : Nat → Nat → Int32 := fx (fun _ => 0) (hsF h)
def vp (h : Hs) (k : Nat) : Vp := (hg h, hsh h, htm h, hhd h k, hN h, htn h, htt h, hta h)
theorem fx_cong {α : Type} {d : α} {F G : (Nat → α) → Nat → α} {N : Nat} (h : ∀ x, x < N → ∀ f, F f x = G f x) : ∀ x, x < N → fx d F x = fx d G x := by
  have key : ∀ k, k ≤ N → tb d F k = tb d G k := by
    intro k
    induction k with
    | zero => intro _; rfl
    | succ k ih =>
      intro hk
      have e := ih (by omega)
      funext y
      show (if y = k then F (tb d F k) k else tb d F k y) = (if y = k then G (tb d G k) k else tb d G k y)
      rw [e, h k (by omega)]
  intro x hx
  show F (tb d F x) x = G (tb d G x) x
  rw [key x (by omega), h x hx]
/-- two graphs that are the same below N -/
def AG (g g2 : Gr) (N : Nat) : Prop := gn g2 = gn g ∧ ∀ x, x < N → gc g2 x = gc g x ∧ gs g2 x = gs g x ∧ go g2 x = go g x
section AGREE
variable {g g2 : Gr} {N : Nat}
theorem ag_anc (h : AG g g2 N) {x : Nat} (hx : x < N) : anc g2 x = anc g x := fx_cong (fun x hx f => by
  funext y
  unfold anF
  rw [(h.2 x hx).2.1, (h.2 x hx).2.2]) x hx
theorem ag_sa (h : AG g g2 N) {x : Nat} (hx : x < N) : sa g2 x = sa g x := fx_cong (fun x hx f => by
  funext y
  unfold saF
  rw [(h.2 x hx).2.1]) x hx
theorem ag_dep (h : AG g g2 N) {x : Nat} (hx : x < N) : dep g2 x = dep g x := fx_cong (fun x hx f => by
  unfold deF
  rw [(h.2 x hx).2.1]) x hx
theorem ag_frk (h : AG g g2 N) {x y : Nat} (hx : x < N) (hy : y < N) : frk g2 x y = frk g x y := by
  unfold frk
  rw [(h.2 x hx).1, (h.2 y hy).1, ag_sa h hx, ag_sa h hy]
theorem ag_inA (h : AG g g2 N) {x c y : Nat} (hx : x < N) (hy : y < N) : inA g2 x c y = inA g x c y := by
  unfold inA
  rw [ag_anc h hx, (h.2 y hy).1]
theorem ag_forked (h : AG g g2 N) {x c : Nat} (hx : x < N) : forked g2 x c = forked g x c := by
  unfold forked
  refine anyN_congr (x + 1) (fun y hy => ?_)
  rw [ag_inA h hx (by omega), anyN_congr y (fun z hz => by rw [ag_inA h hx (show z < N by omega), ag_frk h (show y < N by omega) (show z < N by omega)])]
theorem ag_see (h : AG g g2 N) {x y : Nat} (hx : x < N) (hy : y < N) : see g2 x y = see g x y := by
  unfold see
  rw [ag_anc h hx, (h.2 y hy).1, ag_forked h hx]
theorem ag_str (h : AG g g2 N) {x y : Nat} (hx : x < N) (hy : y < N) : str g2 x y = str g x y := by
  have e : ∀ c, thr g2 x y c = thr g x y c := fun c => by
    unfold thr
    refine anyN_congr (x + 1) (fun z hz => ?_)
    rw [(h.2 z (by omega)).1, ag_see h hx (show z < N by omega), ag_see h (show z < N by omega) hy]
  unfold str most
  rw [h.1, cnt_congr 8 (fun c _ => e c)]
theorem ag_rnd (h : AG g g2 N) {x : Nat} (hx : x < N) : rnd g2 x = rnd g x := fx_cong (fun x hx f => by
  have e : ∀ r c, rmask g2 f x r c = rmask g f x r c := fun r c => by
    unfold rmask
    refine anyN_congr x (fun w hw => ?_)
    have e1 : witF g2 f w = witF g f w := by
      unfold witF
      rw [(h.2 w (by omega)).2.1]
    rw [e1, ag_str h hx (show w < N by omega), (h.2 w (by omega)).1]
  unfold rnF most
  rw [(h.2 x hx).2.1, (h.2 x hx).2.2, h.1]
  cases gs g x with
  | none => rfl
  | some s =>
    show (if decide (2 * gn g < 3 * cnt (rmask g2 f x (max (f s) (oN (go g x) f))) 8) = true then _ else _) = (if decide (2 * gn g < 3 * cnt (rmask g f x (max (f s) (oN (go g x) f))) 8) = true then _ else _)
    rw [cnt_congr 8 (fun c _ => e _ c)]) x hx
theorem ag_wit (h : AG g g2 N) (hP : POK g N) {x : Nat} (hx : x < N) : wit g2 x = wit g x := by
  unfold wit witF
  rw [(h.2 x hx).2.1]
  cases hs : gs g x with
  | none => rfl
  | some s =>
    have := ((hP.1 x hx).2.1 s hs).1
    have e1 := ag_rnd h (show s < N by omega)
    have e2 := ag_rnd h hx
    simp only [e1, e2]
end AGREE
section AGREE2
variable {g g2 : Gr} {N : Nat}
theorem ag_el (h : AG g g2 N) (hP : POK g N) {y z : Nat} (hy : y < N) (hz : z < N) : el g2 y z = el g y z := by
  unfold el
  rw [ag_wit h hP hz, ag_rnd h hz, ag_rnd h hy, ag_str h hy hz]
theorem ag_vt (h : AG g g2 N) (hP : POK g N) {hb hb2 : Nat → Bool} (hh : ∀ y, y < N → hb2 y = hb y) {x : Nat} (hx : x < N) {y : Nat} (hy : y < N) : vt g2 hb2 x y = vt g hb x y := fx_cong (fun y hy f => by
  have eY : vtY g2 f y = vtY g f y := cnt_congr y (fun z hz => by rw [ag_el h hP hy (show z < N by omega)])
  have eN : vtN g2 f y = vtN g f y := cnt_congr y (fun z hz => by rw [ag_el h hP hy (show z < N by omega)])
  unfold vtF most
  rw [ag_rnd h hy, ag_rnd h hx, ag_see h hy hx, eY, eN, hh y hy, h.1]) y hy
theorem ag_fa (h : AG g g2 N) (hP : POK g N) (x : Nat) {u : Nat} (hu : u < N) : fa g2 x u = fa g x u := fx_cong (fun u hu f => by
  unfold faF
  rw [(h.2 u hu).2.1]
  cases hs : gs g u with
  | none => rfl
  | some s =>
    have := ((hP.1 u hu).2.1 s hs).1
    have e := ag_anc h (show s < N by omega)
    simp only [e]) u hu
theorem ag_mono (h : AG g g2 N) {M : Nat} (hM : M ≤ N) : AG g g2 M := ⟨h.1, fun x hx => h.2 x (by omega)⟩
end AGREE2
/-- the same views: the graphs alike below N, what is held the same and below N -/
def AV (p q : Vp) : Prop := AG (pg p) (pg q) (pN p) ∧ POK (pg p) (pN p) ∧ pN p ≤ pN q ∧ (∀ x, x < pN p → phs q x = phs p x ∧ ptm q x = ptm p x ∧ ptn q x = ptn p x ∧ ptt q x = ptt p x ∧ pta q x = pta p x) ∧ phd q = phd p ∧ ∀ x, phd p x = true → x < pN p
section AGREEV
variable {p q : Vp}
theorem anyN_ext {f : Nat → Bool} {n m : Nat} (h : n ≤ m) (h0 : ∀ i, n ≤ i → i < m → f i = false) : anyN f m = anyN f n := by
  obtain ⟨d, rfl⟩ : ∃ d, m = n + d := ⟨m - n, by omega⟩
  induction d with
  | zero => rfl
  | succ d ih =>
    show (anyN f (n + d) || f (n + d)) = anyN f n
    rw [ih (by omega) (fun i h1 h2 => h0 i h1 (by omega)), h0 (n + d) (by omega) (by omega), Bool.or_false]
theorem av_hb (h : AV p q) : ∀ y, y < pN p → phb q y = phb p y := fun y hy => by
  unfold phb
  rw [(h.2.2.2.1 y hy).1]
theorem av_vt (h : AV p q) {x y : Nat} (hx : x < pN p) (hy : y < pN p) : vt (pg q) (phb q) x y = vt (pg p) (phb p) x y := ag_vt h.1 h.2.1 (av_hb h) hx hy
theorem av_out (h : AV p q) {x : Nat} (hx : ¬ x < pN p) : phd p x = false := by
  cases e : phd p x
  · rfl
  · exact absurd (h.2.2.2.2.2 x e) hx
theorem av_dcs (h : AV p q) {x : Nat} (hx : x < pN p) (y : Nat) : dcs q x y = dcs p x y := by
  unfold dcs
  rw [h.2.2.2.2.1]
  by_cases hy : y < pN p
  · rw [ag_wit h.1 h.2.1 hy, ag_rnd h.1 hx, ag_rnd h.1 hy, av_vt h hx hy]
  · rw [av_out h hy]
    simp only [Bool.false_and]
theorem dcs_lt (h : AV p q) {x y : Nat} (hd : dcs p x y = true) : y < pN p := by
  unfold dcs at hd
  rw [Bool.and_eq_true] at hd
  exact h.2.2.2.2.2 y hd.1
theorem av_bst (h : AV p q) {x : Nat} (hx : x < pN p) : ∀ M, bst q x M = bst p x M
  | 0 => rfl
  | M + 1 => by
    show (if dcs q x M && erl q M (bst q x M) then some M else bst q x M) = (if dcs p x M && erl p M (bst p x M) then some M else bst p x M)
    rw [av_bst h hx M, av_dcs h hx]
    cases hd : dcs p x M
    · rfl
    · have hM := dcs_lt h hd
      have e : erl q M (bst p x M) = erl p M (bst p x M) := by
        cases hb : bst p x M with
        | none => rfl
        | some b =>
          have hbl := dcs_lt h (bst_at M hb).2
          show decide (rnd (pg q) M < rnd (pg q) b) = decide (rnd (pg p) M < rnd (pg p) b)
          rw [ag_rnd h.1 hM, ag_rnd h.1 hbl]
      rw [e]
theorem bst_far (h : AV p q) {x : Nat} : ∀ d, bst p x (pN p + d) = bst p x (pN p)
  | 0 => rfl
  | d + 1 => by
    show (if dcs p x (pN p + d) && erl p (pN p + d) (bst p x (pN p + d)) then some (pN p + d) else bst p x (pN p + d)) = _
    have : dcs p x (pN p + d) = false := by
      cases e : dcs p x (pN p + d)
      · rfl
      · have := dcs_lt h e; omega
    rw [this]
    exact bst_far h d
theorem av_fam (h : AV p q) (x : Nat) : fam q x = fam p x := by
  by_cases hx : x < pN p
  · have hN := h.2.2.1
    have e : bst q x (pN q) = bst p x (pN p) := by
      rw [av_bst h hx, show pN q = pN p + (pN q - pN p) by omega, bst_far h]
    unfold fam
    rw [ag_wit h.1 h.2.1 hx, h.2.2.2.2.1, e]
    cases hb : bst p x (pN p) with
    | none => rfl
    | some b =>
      have hbl := (bst_at (pN p) hb).1
      have e2 := av_vt h hx hbl
      simp only [e2]
  · rw [fam_out (av_out h hx), fam_out (by rw [h.2.2.2.2.1]; exact av_out h hx)]
theorem fam_lt (h : AV p q) {x : Nat} (hf : fam p x ≠ 0) : x < pN p := h.2.2.2.2.2 x (fam_wit hf).2
theorem av_riv (h : AV p q) {x : Nat} (hx : x < pN p) : anyN (riv q x) (pN q) = anyN (riv p x) (pN p) := by
  rw [anyN_ext h.2.2.1 (fun i h1 _ => by
    cases e : riv q x i
    · rfl
    · have := (riv_iff.mp e).2.1
      rw [av_fam h] at this
      have := fam_lt h (x := i) (by omega)
      omega)]
  refine anyN_congr _ (fun y hy => ?_)
  unfold riv
  rw [av_fam h, ag_rnd h.1 hy, ag_rnd h.1 hx, (h.1.2 y hy).1, (h.1.2 x hx).1]
theorem av_unq (h : AV p q) (x : Nat) : unq q x = unq p x := by
  unfold unq
  rw [av_fam h]
  by_cases hf : fam p x = 2
  · rw [av_riv h (fam_lt h (by omega))]
  · rw [decide_eq_false hf]
    rfl
theorem av_f3 (h : AV p q) (x : Nat) : f3 q x = f3 p x := by
  unfold f3
  rw [av_unq h, av_fam h]
theorem unq_lt (h : AV p q) {u : Nat} (hu : unq p u = true) : u < pN p := fam_lt h (by rw [(unq_iff.mp hu).1]; decide)
theorem av_ur (h : AV p q) (r u : Nat) : ur q r u = ur p r u := by
  unfold ur
  rw [av_unq h]
  cases hu : unq p u
  · rfl
  · rw [ag_rnd h.1 (unq_lt h hu)]
theorem ur_lt (h : AV p q) {r u : Nat} (hu : ur p r u = true) : u < pN p := unq_lt h (ur_iff.mp hu).1
theorem av_cur (h : AV p q) (r M : Nat) : cnt (ur q r) M = cnt (ur p r) M := cnt_congr M (fun i _ => av_ur h r i)
theorem av_uc (h : AV p q) (r : Nat) : uc q r = uc p r := by
  unfold uc
  rw [av_cur h, cnt_ext h.2.2.1 (fun i h1 _ => by
    cases e : ur p r i
    · rfl
    · have := ur_lt h e; omega)]
theorem av_xr (h : AV p q) (r w : Nat) : xr q r w = xr p r w := by
  have e : ∀ M, xrt q r w M = xrt p r w M := by
    intro M
    induction M with
    | zero => rfl
    | succ M ih =>
      show (if ur q r M then xrt q r w M ^^^ phs q M w else xrt q r w M) = (if ur p r M then xrt p r w M ^^^ phs p M w else xrt p r w M)
      rw [av_ur h, ih]
      cases hu : ur p r M
      · rfl
      · rw [(h.2.2.2.1 M (ur_lt h hu)).1]
  have far : ∀ d, xrt p r w (pN p + d) = xrt p r w (pN p) := by
    intro d
    induction d with
    | zero => rfl
    | succ d ih =>
      show (if ur p r (pN p + d) then _ else xrt p r w (pN p + d)) = _
      have : ur p r (pN p + d) = false := by
        cases e : ur p r (pN p + d)
        · rfl
        · have := ur_lt h e; omega
      rw [this]
      exact ih
  unfold xr
  have hN := h.2.2.1
  rw [e, show pN q = pN p + (pN q - pN p) by omega, far]
theorem av_lot (h : AV p q) : lot q (pN q) = lot p (pN p) := by
  have eo : ∀ x, opn q x = opn p x := fun x => by
    unfold opn
    rw [av_fam h, h.2.2.2.2.1]
    cases hd : phd p x
    · rfl
    · rw [ag_wit h.1 h.2.1 (h.2.2.2.2.2 x hd)]
  have ol : ∀ x, opn p x = true → x < pN p := fun x hx => by
    unfold opn at hx
    rw [Bool.and_eq_true] at hx
    exact h.2.2.2.2.2 x hx.1
  have e : ∀ M, lot q M = lot p M := by
    intro M
    induction M with
    | zero => rfl
    | succ M ih =>
      show (if opn q M then min (lot q M) (rnd (pg q) M) else lot q M) = (if opn p M then min (lot p M) (rnd (pg p) M) else lot p M)
      rw [eo, ih]
      cases hu : opn p M
      · rfl
      · rw [ag_rnd h.1 (ol M hu)]
  have far : ∀ d, lot p (pN p + d) = lot p (pN p) := by
    intro d
    induction d with
    | zero => rfl
    | succ d ih =>
      show (if opn p (pN p + d) then _ else lot p (pN p + d)) = _
      have : opn p (pN p + d) = false := by
        cases e : opn p (pN p + d)
        · rfl
        · have := ol _ e; omega
      rw [this]
      exact ih
  have hN := h.2.2.1
  rw [e, show pN q = pN p + (pN q - pN p) by omega, far]
theorem av_stl (h : AV p q) (r : Nat) : stl q r = stl p r := by
  unfold stl
  rw [av_lot h, av_uc h]
theorem av_bel (h : AV p q) (r x : Nat) : bel q r x = bel p r x := by
  unfold bel
  rw [anyN_ext h.2.2.1 (fun i h1 _ => by
    rw [av_ur h]
    cases e : ur p r i
    · rfl
    · have := ur_lt h e; omega), anyN_congr (pN p) (fun u hu => by rw [av_ur h, ag_anc h.1 hu])]
theorem av_rcv (h : AV p q) (x : Nat) : rcv q x = rcv p x := by
  have e : (fun r => stl q r && bel q r x) = (fun r => stl p r && bel p r x) := by
    funext r
    rw [av_stl h, av_bel h]
  unfold rcv
  rw [h.2.2.2.2.1, e]
theorem av_inR (h : AV p q) (x : Nat) : inR q x = inR p x := by
  unfold inR
  rw [av_rcv h]
theorem inR_hd {x : Nat} (hx : inR p x = true) : phd p x = true := by
  unfold inR rcv at hx
  cases hd : phd p x
  · rw [hd] at hx
    simp at hx
  · rfl
theorem inR_lt (h : AV p q) {x : Nat} (hx : inR p x = true) : x < pN p := h.2.2.2.2.2 x (inR_hd hx)
theorem av_srt (h : AV p q) (r x : Nat) : srt q r x (pN q) = srt p r x (pN p) := by
  have e : ∀ M, srt q r x M = srt p r x M := by
    intro M
    induction M with
    | zero => rfl
    | succ M ih =>
      show (if ur q r M then insA (srt q r x M) (cnt (ur q r) M) (ptm q (fa (pg q) x M)) else srt q r x M) = (if ur p r M then insA (srt p r x M) (cnt (ur p r) M) (ptm p (fa (pg p) x M)) else srt p r x M)
      rw [av_ur h, ih, av_cur h]
      cases hu : ur p r M
      · rfl
      · have hM := ur_lt h hu
        have := fa_le h.2.1 x M hM
        rw [ag_fa h.1 h.2.1 x hM, (h.2.2.2.1 (fa (pg p) x M) (by omega)).2.1]
  have far : ∀ d, srt p r x (pN p + d) = srt p r x (pN p) := by
    intro d
    induction d with
    | zero => rfl
    | succ d ih =>
      show (if ur p r (pN p + d) then _ else srt p r x (pN p + d)) = _
      have : ur p r (pN p + d) = false := by
        cases e : ur p r (pN p + d)
        · rfl
        · have := ur_lt h e; omega
      rw [this]
      exact ih
  have hN := h.2.2.1
  rw [e, show pN q = pN p + (pN q - pN p) by omega, far]
theorem av_stp (h : AV p q) (x : Nat) : stp q x = stp p x := by
  unfold stp
  rw [av_rcv h, av_srt h, av_uc h]
theorem av_key (h : AV p q) {x : Nat} (hx : x < pN p) : key q x = key p x := by
  have e : wht q x = wht p x := by
    funext w
    unfold wht
    rw [av_rcv h, av_xr h, (h.2.2.2.1 x hx).1]
  unfold key
  rw [av_rcv h, av_stp h, e]
theorem av_pl (h : AV p q) {x : Nat} (hx : x < pN p) : pl q x = pl p x := by
  unfold pl
  rw [cnt_ext h.2.2.1 (fun i h1 _ => by
    rw [av_inR h]
    cases e : inR p i
    · rfl
    · have := inR_lt h e; omega)]
  refine cnt_congr _ (fun y hy => ?_)
  rw [av_inR h, av_key h hy, av_key h hx]
theorem av_oL (h : AV p q) : oL q = oL p := by
  unfold oL
  rw [cnt_congr (q := inR p) (pN q) (fun i _ => av_inR h i), cnt_ext h.2.2.1 (fun i h1 _ => by
    cases e : inR p i
    · rfl
    · have := inR_lt h e; omega)]
theorem pl_inj (hN : pN p ≤ 256) {x y : Nat} (hx : x < pN p) (hy : y < pN p) (ix : inR p x = true) (iy : inR p y = true) (h : pl p x = pl p y) : x = y := by
  rcases Nat.lt_trichotomy (key p x) (key p y) with z | z | z
  · have : pl p x < pl p y := rk_slt (p := p) (q := inR p) (M := pN p) hx ix z
    omega
  · exact key_inj (p := p) (by omega) (by omega) z
  · have : pl p y < pl p x := rk_slt (p := p) (q := inR p) (M := pN p) hy iy z
    omega
theorem av_atk (h : AV p q) (hN : pN p ≤ 240) (hN2 : pN q ≤ 240) {k : Nat} (hk : k < oL p) : atk q k = atk p k := by
  obtain ⟨a1, a2, a3⟩ := atk_spec hN hk
  obtain ⟨b1, b2, b3⟩ := atk_spec (p := q) hN2 (show k < oL q by rw [av_oL h]; exact hk)
  rw [av_inR h] at b2
  have b4 := inR_lt h b2
  rw [av_pl h b4] at b3
  exact pl_inj (by omega) b4 a1 b2 a2 (b3.trans a3.symm)
theorem av_bal (h : AV p q) (hN : pN p ≤ 240) (hN2 : pN q ≤ 240) : ∀ k, k ≤ oL p → balk q k = balk p k
  | 0, _ => by
    show (fun c => if c < gn (pg q) then (1000000 : Int32) else 0) = _
    rw [h.1.1]
    rfl
  | k + 1, hk => by
    have hx := (atk_spec hN (show k < oL p by omega)).1
    obtain ⟨-, e2, e3, e4, e5⟩ := h.2.2.2.1 _ hx
    show payE q (atk q k) (balk q k) (ptn q (atk q k)) = payE p (atk p k) (balk p k) (ptn p (atk p k))
    rw [av_atk h hN hN2 (by omega), av_bal h hN hN2 k (by omega), e3]
    have e : ∀ i b, payE q (atk p k) b i = payE p (atk p k) b i := by
      intro i b
      induction i with
      | zero => rfl
      | succ i ih =>
        show payF (payE q (atk p k) b i) (gc (pg q) (atk p k)) (ptt q (atk p k) i).toNatClampNeg (pta q (atk p k) i) = payF (payE p (atk p k) b i) (gc (pg p) (atk p k)) (ptt p (atk p k) i).toNatClampNeg (pta p (atk p k) i)
        rw [ih, (h.1.2 _ hx).1, e4, e5]
    exact e _ _
/-- what was found stays so -/
theorem VF.grow {v : Nat} {σ : Sg} (h : AV p q) (hN : pN p ≤ 240) (hN2 : pN q ≤ 240) (hv : VF p v σ) : VF q v σ := by
  obtain ⟨⟨u1, u2, u3, u4⟩, ⟨r1, r2⟩, ⟨o1, o2, o3⟩, b, s, t⟩ := hv
  refine ⟨⟨fun x hx => by rw [av_f3 h]; exact u1 x hx, fun r hr => by rw [av_uc h]; exact u2 r hr, fun r u hr hu hq => ?_, fun r w hr hw => by rw [av_xr h]; exact u4 r w hr hw⟩, ⟨fun x hx => by rw [av_rcv h]; exact r1 x hx, fun x hx hi => ?_⟩, ⟨fun x hx => ?_, fun x hx hi => ?_, by rw [av_oL h]; exact o3⟩, fun c hc => ?_, ?_, t⟩
  · rw [av_ur h] at hq
    rw [av_cur h]
    exact u3 r u hr (ur_lt h hq) hq
  · rw [av_inR h] at hi
    rw [av_stp h]
    exact r2 x (inR_lt h hi) hi
  · rw [o1 x hx, av_inR h]
    cases hi : inR p x
    · exact (if_neg Bool.false_ne_true).trans (if_neg Bool.false_ne_true).symm
    · rw [av_pl h (inR_lt h hi)]
  · rw [av_inR h] at hi
    rw [av_pl h (inR_lt h hi)]
    exact o2 x (inR_lt h hi) hi
  · rw [av_oL h, av_bal h hN hN2 _ (Nat.le_refl _)]
    exact b c hc
  · rw [s, cnt_congr (q := stl p) 241 (fun i _ => av_stl h i)]
end AGREEV
