/-! ===== the history as it grows; what the class's world holds of it ===== -/
def uN {α : Type} (f : Nat → α) (i : Nat) (v : α) : Nat → α := fun j => if j = i then v else f j
theorem uN_at {α : Type} (f : Nat → α) (i : Nat) (v : α) : uN f i v i = v := if_pos rfl
theorem uN_ne {α : Type} (f : Nat → α) {i j : Nat} (v : α) (h : j ≠ i) : uN f i v j = f j := if_neg h
def hmk (h : Hs) (c : Nat) (s o : Option Nat) (t : Int64) (k : Nat) : Hs :=
  ((gn (hg h), uN (gc (hg h)) (hN h) c, uN (gs (hg h)) (hN h) s, uN (go (hg h)) (hN h) o), uN (htm h) (hN h) t, uN (htn h) (hN h) k, uN (htt h) (hN h) (hwt h c), uN (hta h) (hN h) (hwa h c), hN h + 1, hhd h, hlat h, uN (hwn h) c (hwn h c - k), uN (hwt h) c (fun j => hwt h c (j + k)), uN (hwa h) c (fun j => hwa h c (j + k)))
def hgv (h : Hs) (x node : Nat) : Hs := (hg h, htm h, htn h, htt h, hta h, hN h, (fun k y => hhd h k y || (decide (k = node) && decide (y = x))), hlat h, hwn h, hwt h, hwa h)
def hjn (h : Hs) (to fr : Nat) : Hs := (hg h, htm h, htn h, htt h, hta h, hN h, (fun k y => hhd h k y || (decide (k = to) && hhd h fr y)), hlat h, hwn h, hwt h, hwa h)
def hlt (h : Hs) (node x : Nat) : Hs := (hg h, htm h, htn h, htt h, hta h, hN h, hhd h, uN (hlat h) node x, hwn h, hwt h, hwa h)
def hwj (h : Hs) (node : Nat) (to am : Int32) : Hs := (hg h, htm h, htn h, htt h, hta h, hN h, hhd h, hlat h, uN (hwn h) node (hwn h node + 1), uN (hwt h) node (uN (hwt h node) (hwn h node) to), uN (hwa h) node (uN (hwa h node) (hwn h node) am))
def hclr (n : Nat) : Hs := ((n, (fun _ => 0), (fun _ => none), (fun _ => none)), (fun _ => 0), (fun _ => 0), (fun _ _ => 0), (fun _ _ => 0), 0, (fun _ _ => false), (fun _ => 0), (fun _ => 0), (fun _ _ => 0), (fun _ _ => 0))
def hroot (h : Hs) (k : Nat) : Hs := hlt (hgv (hmk h k none none 0 0) (hN h) k) k (hN h)
def hst (n : Nat) : Nat → Hs
  | 0 => hclr n
  | k + 1 => hroot (hst n k) k
def hsync (h : Hs) (fr to : Nat) (t : Int64) : Hs := hlt (hgv (hmk (hjn h to fr) to (some (hlat h to)) (some (hlat h fr)) t (min (hwn h to) 3)) (hN h) to) to (hN h)
def hinj (h : Hs) (node c s : Nat) (o : Option Nat) (t : Int64) : Hs := hgv (hmk h c (some s) o t 0) (hN h) node
/-- what a history is -/
def HC (h : Hs) : Prop := 2 ≤ gn (hg h) ∧ hN h ≤ 240 ∧ POK (hg h) (hN h) ∧ (∀ x, x < hN h → gc (hg h) x < gn (hg h)) ∧ (∀ x, x < hN h → htn h x ≤ 3 ∧ ∀ i, i < htn h x → vp_in (htt h x i) 8) ∧ (∀ k x, hhd h k x = true → x < hN h ∧ k < gn (hg h)) ∧ (∀ k, k < 8 → hwn h k ≤ 8 ∧ (∀ j, j < hwn h k → vp_in (hwt h k j) 8) ∧ (gn (hg h) ≤ k → hwn h k = 0))
def LK (h : Hs) : Prop := ∀ k, k < gn (hg h) → hlat h k < hN h ∧ gc (hg h) (hlat h k) = k
def hhb (h : Hs) (y : Nat) : Bool := decide (hsh h y 4 < 0)
/-- the cells of L are as they were -/
def Sm (L : List Nat) (σ τ : Sg) : Prop := ∀ a ∈ L, τ.1 a = σ.1 a ∧ τ.2 a = σ.2 a
theorem Fr.sm {S : List Nat} {σ τ : Sg} (L : List Nat) (h : Fr S σ τ) (d : ∀ a ∈ L, a ∉ S) : Sm L σ τ := fun a ha => h a (d a ha)
theorem Sm.mono {L M : List Nat} {σ τ : Sg} (h : Sm L σ τ) (d : ∀ a ∈ M, a ∈ L) : Sm M σ τ := fun a ha => h a (d a ha)
theorem Sm.bt {L : List Nat} {σ τ : Sg} (h : Sm L σ τ) {t : Nat} (ht : t + 1 ∈ L) (r b : Nat) : bt τ t r b = bt σ t r b := bt_congr (h _ ht).2 r b
theorem GT.sm {g : Gr} {N : Nat} {σ τ : Sg} (h : GT g N σ) (hl : Sm [22, 24, 26, 28, 29, 31, 32, 33, 34] σ τ) : GT g N τ := by
  obtain ⟨t1, t2, t3, t4, t5, t6, t7, t8, t9, t10⟩ := h
  have q22 := (hl 22 (by decide)).1
  refine ⟨fun x y hx hy => ?_, fun x y hx hy => ?_, fun x y hx hy => ?_, fun x hx => ?_, fun x hx => ?_, fun c hc => ?_, ?_, ?_, ?_, ?_⟩
  · rw [hl.bt (by decide)]; exact t1 x y hx hy
  · rw [hl.bt (by decide)]; exact t2 x y hx hy
  · rw [hl.bt (by decide)]; exact t3 x y hx hy
  · rw [(hl 31 (by decide)).1]; exact t4 x hx
  · rw [(hl 32 (by decide)).1, (hl 33 (by decide)).1]; exact t5 x hx
  · rw [(hl 34 (by decide)).1]; exact t6 c hc
  · rw [q22]; exact t7
  · rw [q22]; exact t8
  · rw [q22]; exact t9
  · rw [(hl 29 (by decide)).1]; exact t10
theorem EL.sm {g : Gr} {hb : Nat → Bool} {N : Nat} {σ τ : Sg} (h : EL g hb N σ) (hl : Sm [37, 38, 40, 42, 44] σ τ) : EL g hb N τ := by
  obtain ⟨t1, t2, t3, t4, t5, t6⟩ := h
  have q37 := (hl 37 (by decide)).1
  refine ⟨by rw [q37]; exact t1, by rw [q37]; exact t2, fun x hx hw => ?_, fun y b hy hw hb2 => ?_, fun x b hx hw hb2 => ?_, fun x b hx hw hb2 => ?_⟩
  · rw [(hl 38 (by decide)).1]; exact t3 x hx hw
  · rw [hl.bt (by decide)]; exact t4 y b hy hw hb2
  · rw [hl.bt (by decide)]; exact t5 x b hx hw hb2
  · rw [hl.bt (by decide)]; exact t6 x b hx hw hb2
/-- the events' own parts, in their arrays -/
def EvP (h : Hs) (σ : Sg) : Prop := EvA (hg h) (hN h) σ ∧ (∀ x w, x < hN h → w < 8 → σ.1 19 (x * 8 + w) = hsh h x w) ∧ (∀ x, x < hN h → σ.2 15 x = htm h x) ∧ (∀ x, x < hN h → σ.1 16 x = nI (htn h x) ∧ ∀ i, i < htn h x → σ.1 17 (x * 3 + i) = htt h x i ∧ σ.1 18 (x * 3 + i) = hta h x i)
theorem EvP.sm {h : Hs} {σ τ : Sg} (e : EvP h σ) (q : Sm [12, 13, 14, 15, 16, 17, 18, 19] σ τ) : EvP h τ := by
  obtain ⟨a, b, c, d⟩ := e
  refine ⟨fun x hx => ?_, fun x w hx hw => ?_, fun x hx => ?_, fun x hx => ?_⟩
  · rw [(q 12 (by decide)).1, (q 13 (by decide)).1, (q 14 (by decide)).1]; exact a x hx
  · rw [(q 19 (by decide)).1]; exact b x w hx hw
  · rw [(q 15 (by decide)).2]; exact c x hx
  · rw [(q 16 (by decide)).1, (q 17 (by decide)).1, (q 18 (by decide)).1]; exact d x hx
/-- what waits, the class's way -/
def WT (wn : Nat → Nat) (wt wa : Nat → Nat → Int32) (σ : Sg) : Prop := ∀ k, k < 8 → σ.1 6 k = nI (wn k) ∧ ∀ j, j < wn k → σ.1 4 (k * 8 + j) = wt k j ∧ σ.1 5 (k * 8 + j) = wa k j
theorem WT.sm {wn : Nat → Nat} {wt wa : Nat → Nat → Int32} {σ τ : Sg} (h : WT wn wt wa σ) (q : Sm [4, 5, 6] σ τ) : WT wn wt wa τ := fun k hk => by
  rw [(q 4 (by decide)).1, (q 5 (by decide)).1, (q 6 (by decide)).1]
  exact h k hk
def HD (h : Hs) (σ : Sg) : Prop := σ.1 20 0 = nI 8 ∧ ∀ k x, k < 8 → x < 256 → bt σ 20 k x = hhd h k x
/-- the class's world, but for its views and the latest events -/
def DC (h : Hs) (σ : Sg) : Prop := HC h ∧ σ.1 0 6 = nI (gn (hg h)) ∧ EvP h σ ∧ HD h σ ∧ GT (hg h) (hN h) σ ∧ EL (hg h) (hhb h) (hN h) σ ∧ σ.1 7 10 = nI (hN h) ∧ WT (hwn h) (hwt h) (hwa h) σ
abbrev LD : List Nat := [0, 4, 5, 6, 7, 12, 13, 14, 15, 16, 17, 18, 19, 20, 21, 22, 24, 26, 28, 29, 31, 32, 33, 34, 37, 38, 40, 42, 44]
theorem DC.sm {h : Hs} {σ τ : Sg} (d : DC h σ) (q : Sm LD σ τ) : DC h τ := by
  obtain ⟨a, b, c, ⟨d1, d2⟩, e, f, g, w⟩ := d
  refine ⟨a, by rw [(q 0 (by decide)).1]; exact b, c.sm (q.mono (by decide)), ⟨by rw [(q 20 (by decide)).1]; exact d1, fun k x hk hx => ?_⟩, e.sm (q.mono (by decide)), f.sm (q.mono (by decide)), by rw [(q 7 (by decide)).1]; exact g, w.sm (q.mono (by decide))⟩
  rw [q.bt (by decide)]
  exact d2 k x hk hx
def LT (h : Hs) (σ : Sg) : Prop := ∀ k, k < gn (hg h) → σ.1 2 k = nI (hlat h k)
/-- a view -/
def VW (h : Hs) (i : Nat) (σ : Sg) : Prop := σ.1 (45 + 12 * i) 0 = nI i ∧ isZ (σ.1 (45 + 12 * i) 17) ∧ (i < gn (hg h) → σ.1 (45 + 12 * i) 17 = 0 → VF (vp h i) (45 + 12 * i) σ)
/-- the class's world at the end of each call -/
def DI (h : Hs) (σ : Sg) : Prop := DC h σ ∧ LK h ∧ LT h σ ∧ ∀ i, i < 8 → VW h i σ
abbrev SM : List Nat := [4, 5, 6, 7, 8, 9, 10, 11, 12, 13, 14, 15, 16, 17, 18, 19, 22, 24, 26, 28, 30, 31, 32, 33, 34, 35, 36, 37, 38, 40, 42, 44]
def MkOK (h : Hs) (c : Nat) (s o : Option Nat) (k : Nat) : Prop := hN h < 240 ∧ c < gn (hg h) ∧ (∀ y, s = some y → y < hN h ∧ gc (hg h) y = c) ∧ (∀ y, o = some y → y < hN h) ∧ (s = none → o = none ∧ ∀ y, y < hN h → gs (hg h) y = none → gc (hg h) y ≠ c) ∧ k ≤ 3 ∧ k ≤ hwn h c
def sp_X7_makeEvent (x1 x2 x3 : Int32) (x4 : Int64) (x6 : Int32) (σ : Sg) (K : Int32 → Sg → Prop) : Prop := ∃ (h : Hs) (c : Nat) (s o : Option Nat) (k : Nat), DC h σ ∧ MkOK h c s o k ∧ x1 = nI c ∧ x2 = nO s ∧ x3 = nO o ∧ x6 = nI k ∧ ∀ τ, DC (hmk h c s o x4 k) τ → Fr SM σ τ → K (nI (hN h)) τ
/-- before a world's first call nothing is known of it but its views' numbers -/
def D0 (σ : Sg) : Prop := σ.1 20 0 = nI 8 ∧ σ.1 29 0 = nI 8 ∧ ∀ i, i < 8 → σ.1 (45 + 12 * i) 0 = nI i ∧ isZ (σ.1 (45 + 12 * i) 17)
def sp_X7_startAnew (x1 : Int32) (σ : Sg) (K : Sg → Prop) : Prop := ∃ n : Nat, 2 ≤ n ∧ n ≤ 8 ∧ x1 = nI n ∧ D0 σ ∧ ∀ τ, DI (hst n n) τ → K τ
