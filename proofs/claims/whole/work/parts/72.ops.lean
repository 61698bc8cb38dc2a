/-! ===== the calls, in pure words: the code of what is thrown (0: nothing), the answer, the history after ===== -/
def nd (n : Nat) (x : Int32) : Option Nat := if x < 0 then none else if x.toNatClampNeg < n then some x.toNatClampNeg else none
theorem nd_at {n k : Nat} (hk : k < n) (hn : n < 2 ^ 31) : nd n (nI k) = some k := by
  unfold nd
  rw [if_neg (nI_pos (by omega)), cl_nI (by omega), if_pos hk]
theorem nd_no {n : Nat} {x : Int32} (hn : n < 2 ^ 31) (h : ∀ k, k < n → x ≠ nI k) : nd n x = none := by
  unfold nd
  by_cases c : x < 0
  · rw [if_pos c]
  · obtain ⟨k, hk, rfl⟩ := nI_of c
    rw [if_neg c, cl_nI hk, if_neg (fun q => h k q rfl)]
theorem nd_cases (n : Nat) (hn : n < 2 ^ 31) (x : Int32) : (∃ k, k < n ∧ x = nI k ∧ nd n x = some k) ∨ nd n x = none := by
  by_cases c : x < 0
  · right
    unfold nd
    rw [if_pos c]
  · obtain ⟨k, hk, rfl⟩ := nI_of c
    by_cases q : k < n
    · exact Or.inl ⟨k, q, rfl, nd_at q hn⟩
    · right
      unfold nd
      rw [if_neg c, cl_nI hk, if_neg q]
theorem nd_ne {n : Nat} {x : Int32} (h : nd n x = none) (hn : n < 2 ^ 31) : ∀ k, k < n → x ≠ nI k := fun k hk e => by
  subst e
  rw [nd_at hk hn] at h
  cases h
def opBegin (h : Hs) (x : Int32) : Nat × Hs := if 2 ≤ x ∧ x ≤ 8 then (0, hst x.toNatClampNeg x.toNatClampNeg) else (1, h)
def opSubmit (h : Hs) (x y a : Int32) : Nat × Int32 × Hs := match nd (gn (hg h)) x, nd (gn (hg h)) y with
  | some i, some _ => if 0 ≤ a ∧ a ≤ 1000000 then (if hwn h i = 8 then (2, 0, h) else (0, nI (hwn h i + 1), hwj h i y a)) else (1, 0, h)
  | _, _ => (1, 0, h)
def opSync (h : Hs) (x y : Int32) (t : Int64) : Nat × Int32 × Hs := match nd (gn (hg h)) x, nd (gn (hg h)) y with
  | some i, some j => if i = j then (1, 0, h) else if hN h = 240 then (2, 0, h) else (0, nI (hN h), hsync h i j t)
  | _, _ => (1, 0, h)
def injO (h : Hs) (i j : Nat) (o : Int32) : Option (Option Nat) := if o = -1 then some none else match nd (hN h) o with
  | some ox => if hhd h i ox = true ∧ gc (hg h) ox ≠ j then some (some ox) else none
  | none => none
def sameE (h : Hs) (j s : Nat) (o : Option Nat) (t : Int64) (x : Nat) : Bool := decide (gc (hg h) x = j) && (decide (gs (hg h) x = some s) && (decide (go (hg h) x = o) && (decide (htm h x = t) && decide (htn h x = 0))))
def opInject (h : Hs) (x c s o : Int32) (t : Int64) : Nat × Int32 × Hs := match nd (gn (hg h)) x, nd (gn (hg h)) c with
  | some i, some j => if i = j then (1, 0, h) else match nd (hN h) s with
    | some sx => if hhd h i sx = true ∧ gc (hg h) sx = j then (match injO h i j o with
      | none => (1, 0, h)
      | some oo => if anyN (sameE h j sx oo t) (hN h) then (2, 0, h) else if hN h = 240 then (3, 0, h) else (0, nI (hN h), hinj h i j sx oo t)) else (1, 0, h)
    | none => (1, 0, h)
  | _, _ => (1, 0, h)
def evV (h : Hs) (e : Nat) (w : Int32) : Int32 := if w = 0 then nI (gc (hg h) e) else if w = 1 then nO (gs (hg h) e) else if w = 2 then nO (go (hg h) e) else if w = 3 then nI (rnd (hg h) e) else if w = 4 then bI (wit (hg h) e) else if w = 5 then nI (htn h e) else if w = 6 then nI (cnt (fun k => hhd h k e) 8) else nI (cnt (anc (hg h) e) 256)
def opEvent (h : Hs) (x w : Int32) : Nat × Int32 := if 0 ≤ w ∧ w ≤ 7 then (match nd (hN h) x with
  | some e => (0, evV h e w)
  | none => (2, 0)) else (1, 0)
def opHash (h : Hs) (x w : Int32) : Nat × Int32 := match nd (hN h) x, nd 8 w with
  | some e, some k => (0, hsh h e k)
  | _, _ => (1, 0)
def opSees (h : Hs) (x y z : Int32) : Nat × Int32 := match nd (hN h) x, nd (hN h) y with
  | some a, some b => (0, bI (if z = 0 then see (hg h) a b else str (hg h) a b))
  | _, _ => (1, 0)
def opVote (h : Hs) (y x : Int32) : Nat × Int32 := match nd (hN h) y, nd (hN h) x with
  | some a, some b => if wit (hg h) a = true ∧ wit (hg h) b = true ∧ rnd (hg h) b < rnd (hg h) a then (0, nI (vt (hg h) (hhb h) b a)) else (2, 0)
  | _, _ => (1, 0)
def fdV (h : Hs) (i e : Nat) (w : Int32) : Int32 := if w = 0 then bI (hhd h i e) else if w = 1 then nI (f3 (vp h i) e) else if w = 2 then nI (rcv (vp h i) e) else if inR (vp h i) e then nI (pl (vp h i) e) else -1
def opFound (h : Hs) (n x w : Int32) : Nat × Int32 := match nd (gn (hg h)) n with
  | some i => if 0 ≤ w ∧ w ≤ 3 then (match nd (hN h) x with
    | some e => (0, fdV h i e w)
    | none => (2, 0)) else (1, 0)
  | none => (1, 0)
def opStamp (h : Hs) (n x : Int32) : Nat × Int64 := match nd (gn (hg h)) n with
  | some i => (match nd (hN h) x with
    | some e => if rcv (vp h i) e = 0 then (3, 0) else (0, stp (vp h i) e)
    | none => (2, 0))
  | none => (1, 0)
def opOrder (h : Hs) (n : Int32) : Nat × Int32 := match nd (gn (hg h)) n with
  | some i => (0, nI (oL (vp h i)))
  | none => (1, 0)
def opAt (h : Hs) (n k : Int32) : Nat × Int32 := match nd (gn (hg h)) n with
  | some i => (match nd (oL (vp h i)) k with
    | some j => (0, nI (atk (vp h i) j))
    | none => (2, 0))
  | none => (1, 0)
def opBalance (h : Hs) (n c : Int32) : Nat × Int32 := match nd (gn (hg h)) n, nd (gn (hg h)) c with
  | some i, some j => (0, balk (vp h i) (oL (vp h i)) j)
  | _, _ => (1, 0)
def ctV (h : Hs) (w : Int32) : Int32 := if w = 0 then nI (gn (hg h)) else if w = 1 then nI (hN h) else if w = 2 then nI (mxR (hg h) (hN h)) else if w = 3 then nI (FK (hg h) (hN h)) else if w = 4 then nI (cnt (stl (vp h 0)) 241) else nI (sumT (hwn h) 8)
def opCount (h : Hs) (w : Int32) : Nat × Int32 := if 0 ≤ w ∧ w ≤ 5 then (0, ctV h w) else (1, 0)
theorem node_op {x : Int32} {σ : Sg} {n : Nat} {K : Int32 → Sg → Prop} (hn : n < 2 ^ 31) (h0 : σ.1 0 6 = nI n) (h1 : ∀ k, k < n → x = nI k → nd n x = some k → K 1 σ) (h2 : nd n x = none → K 0 σ) : sp_X7_isNode x σ K :=
  node_ok hn h0 (fun k hk e => h1 k hk e (by rw [e]; exact nd_at hk hn)) (fun q => h2 (nd_no hn q))
theorem event_op {x : Int32} {σ : Sg} {n : Nat} {K : Int32 → Sg → Prop} (hn : n < 2 ^ 31) (h0 : σ.1 7 10 = nI n) (h1 : ∀ k, k < n → x = nI k → nd n x = some k → K 1 σ) (h2 : nd n x = none → K 0 σ) : sp_X7_isEvent x σ K :=
  event_ok hn h0 (fun k hk e => h1 k hk e (by rw [e]; exact nd_at hk hn)) (fun q => h2 (nd_no hn q))
theorem one_ne : ¬ (1 : Int32) = 0 := by decide
