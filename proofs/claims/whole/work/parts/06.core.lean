/-! ===== the words that every contract of mine asks for; the state; the judgement OK ===== -/
def GW : List Cond := lw_tbl.filter goodWord
theorem gw_in {w : Cond} (h : w ∈ lw_tbl) (g : goodWord w = true) : w ∈ GW := List.mem_filter.mpr ⟨h, g⟩
theorem gw_tbl {w : Cond} (h : w ∈ GW) : w ∈ lw_tbl := (List.mem_filter.mp h).1
theorem gw_good {w : Cond} (h : w ∈ GW) : goodWord w = true := (List.mem_filter.mp h).2
theorem gw_goodIn {big : List Cond} {x : Cond} (hx : x ∈ GW) (hb : ∀ w ∈ GW, w ∈ big) : GoodIn big (x :: GW) := by
  intro w hw
  rcases List.mem_cons.mp hw with rfl | hw
  · exact ⟨hb _ hx, good_of_word (gw_good hx)⟩
  · exact ⟨hb _ hw, good_of_word (gw_good hw)⟩
/-- the numbers of a state: what int, boolean and byte arrays and int fields hold (by the number of the cell, and the place), what long arrays hold -/
abbrev Sg : Type := (Nat → Nat → Int32) × (Nat → Nat → Int64)
def pI (σ : Sg) (k j : Nat) (v : Int32) : Sg := (fun a b => if a = k ∧ b = j then v else σ.1 a b, σ.2)
def pJ (σ : Sg) (k j : Nat) (v : Int64) : Sg := (σ.1, fun a b => if a = k ∧ b = j then v else σ.2 a b)
/-- a row of the int arrays anew -/
def pR (σ : Sg) (k : Nat) (f : Nat → Int32) : Sg := (fun a b => if a = k then f b else σ.1 a b, σ.2)
def pS (σ : Sg) (k : Nat) (f : Nat → Int64) : Sg := (σ.1, fun a b => if a = k then f b else σ.2 a b)
theorem pI_at (σ : Sg) (k j : Nat) (v : Int32) (a b : Nat) : (pI σ k j v).1 a b = if a = k ∧ b = j then v else σ.1 a b := rfl
theorem pI_J (σ : Sg) (k j : Nat) (v : Int32) : (pI σ k j v).2 = σ.2 := rfl
theorem pJ_at (σ : Sg) (k j : Nat) (v : Int64) (a b : Nat) : (pJ σ k j v).2 a b = if a = k ∧ b = j then v else σ.2 a b := rfl
theorem pJ_I (σ : Sg) (k j : Nat) (v : Int64) : (pJ σ k j v).1 = σ.1 := rfl
theorem pR_at (σ : Sg) (k : Nat) (f : Nat → Int32) (a b : Nat) : (pR σ k f).1 a b = if a = k then f b else σ.1 a b := rfl
theorem pR_J (σ : Sg) (k : Nat) (f : Nat → Int32) : (pR σ k f).2 = σ.2 := rfl
theorem pS_at (σ : Sg) (k : Nat) (f : Nat → Int64) (a b : Nat) : (pS σ k f).2 a b = if a = k then f b else σ.2 a b := rfl
theorem pS_I (σ : Sg) (k : Nat) (f : Nat → Int64) : (pS σ k f).1 = σ.1 := rfl
theorem pI_upd (σ : Sg) (k j : Nat) (v : Int32) : (pI σ k j v).1 k = upd (σ.1 k) j v := by
  funext b
  simp [pI, upd]
theorem pI_ne (σ : Sg) {k a : Nat} (j : Nat) (v : Int32) (h : a ≠ k) : (pI σ k j v).1 a = σ.1 a := by
  funext b
  simp [pI, h]
theorem pJ_upd (σ : Sg) (k j : Nat) (v : Int64) : (pJ σ k j v).2 k = vp_updL (σ.2 k) j v := by
  funext b
  simp [pJ, vp_updL]
theorem pJ_ne (σ : Sg) {k a : Nat} (j : Nat) (v : Int64) (h : a ≠ k) : (pJ σ k j v).2 a = σ.2 a := by
  funext b
  simp [pJ, h]
theorem pR_self (σ : Sg) (k : Nat) (f : Nat → Int32) : (pR σ k f).1 k = f := by
  funext b
  simp [pR]
theorem pR_ne (σ : Sg) {k a : Nat} (f : Nat → Int32) (h : a ≠ k) : (pR σ k f).1 a = σ.1 a := by
  funext b
  simp [pR, h]
theorem pS_self (σ : Sg) (k : Nat) (f : Nat → Int64) : (pS σ k f).2 k = f := by
  funext b
  simp [pS]
theorem pS_ne (σ : Sg) {k a : Nat} (f : Nat → Int64) (h : a ≠ k) : (pS σ k f).2 a = σ.2 a := by
  funext b
  simp [pS, h]
/-- the kind of a cell: 0 an int array, 1 long, 2 boolean, 3 byte, 4 of references (which cells), 5 + c an object of class c (a field: none a number, some r the cell r); its length -/
abbrev Kd : Type := Nat × Nat × List (Option Nat)
def CLs : List vw_C := [(RX0, TX0, 2), (RX1, TX1, 8), (RX2, TX2, 11), (RX3, TX3, 14), (RX4, TX4, 4), (RX5, TX5, 18), (RX6, TX6, 3), (RX7, TX7, 7), (RX8, TX8, 39)]
def fv1 (ad : Nat → Nat) (f : Nat → Int32) (j : Nat) (o : Option Nat) : Value := match o with
  | none => .int (f j)
  | some r => .ref (ad r)
def fvs (ad : Nat → Nat) (f : Nat → Int32) (fl : List (Option Nat)) : List Value := fl.mapIdx (fv1 ad f)
theorem fvs_at {ad : Nat → Nat} {f : Nat → Int32} {fl : List (Option Nat)} {j : Nat} {o : Option Nat} (h : fl[j]? = some o) : (fvs ad f fl)[j]? = some (fv1 ad f j o) := by
  unfold fvs
  rw [List.getElem?_mapIdx, h]
  rfl
theorem fvs_set {ad : Nat → Nat} {f : Nat → Int32} {fl : List (Option Nat)} {j : Nat} (h : fl[j]? = some none) (v : Int32) : (fvs ad f fl).set j (.int v) = fvs ad (upd f j v) fl := by
  apply List.ext_getElem?
  intro i
  rw [List.getElem?_set]
  unfold fvs
  rw [List.length_mapIdx, List.getElem?_mapIdx, List.getElem?_mapIdx]
  by_cases hi : j = i
  · subst hi
    obtain ⟨hl, he⟩ := List.getElem?_eq_some_iff.mp h
    simp [h, hl, fv1, upd]
    rw [he]
  · rw [if_neg hi]
    cases fl[i]? with
    | none => rfl
    | some o => cases o <;> simp [fv1, upd, Ne.symm hi]
abbrev Wm : Type := va_G × List Kd × (Nat → Nat) × (Nat → ClassId)
def cellOf (ad : Nat → Nat) (cA : Nat → ClassId) (kd : Kd) (f : Nat → Int32) (g : Nat → Int64) : va_E := match kd with
  | (0, n, _) => .inl (cA 0, n, .inl f)
  | (1, n, _) => .inl (cA 1, n, .inr (.inl g))
  | (2, n, _) => .inl (cA 2, n, .inl f)
  | (3, n, _) => .inl (cA 3, n, .inl f)
  | (4, n, fl) => .inl (cA 4, n, .inr (.inr (.inr (.inr (fun j => (fl.getD j none).map ad)))))
  | (c + 5, _, fl) => .inr (c, fvs ad f fl)
def wl (Ω : Wm) (σ : Sg) : va_W := Ω.2.1.mapIdx (fun k kd => (Ω.2.2.1 k, cellOf Ω.2.2.1 Ω.2.2.2 kd (σ.1 k) (σ.2 k)))
theorem wl_at {Ω : Wm} {σ : Sg} {k : Nat} {kd : Kd} (h : Ω.2.1[k]? = some kd) : (wl Ω σ)[k]? = some (Ω.2.2.1 k, cellOf Ω.2.2.1 Ω.2.2.2 kd (σ.1 k) (σ.2 k)) := by
  unfold wl
  rw [List.getElem?_mapIdx, h]
  rfl
theorem wl_len (Ω : Wm) (σ : Sg) : (wl Ω σ).length = Ω.2.1.length := by unfold wl; rw [List.length_mapIdx]
theorem wl_set {Ω : Wm} {σ σ' : Sg} {k : Nat} {kd : Kd} {e : va_E} (h : Ω.2.1[k]? = some kd) (he : e = cellOf Ω.2.2.1 Ω.2.2.2 kd (σ'.1 k) (σ'.2 k)) (h1 : ∀ a, a ≠ k → σ'.1 a = σ.1 a) (h2 : ∀ a, a ≠ k → σ'.2 a = σ.2 a) : (wl Ω σ).set k (Ω.2.2.1 k, e) = wl Ω σ' := by
  subst he
  have hl : k < Ω.2.1.length := (List.getElem?_eq_some_iff.mp h).1
  apply List.ext_getElem?
  intro i
  rw [List.getElem?_set]
  by_cases hi : k = i
  · subst hi
    rw [if_pos rfl, wl_len, if_pos hl, wl_at h]
  · rw [if_neg hi]
    unfold wl
    rw [List.getElem?_mapIdx, List.getElem?_mapIdx]
    simp only [h1 i (Ne.symm hi), h2 i (Ne.symm hi)]
def tys (Ω : Wm) : List (ClassId × FieldType) := [(Ω.2.2.2 0, .int), (Ω.2.2.2 1, .long), (Ω.2.2.2 2, .boolean), (Ω.2.2.2 3, .byte), (Ω.2.2.2 4, .object RX5)]
/-- which cells a method may change: the world's, and those that are made -/
def Ar (Ω : Wm) (sz : Nat) : Nat → Prop := fun q => (∃ k, k < Ω.2.1.length ∧ q = Ω.2.2.1 k) ∨ sz ≤ q
/-- the cells of the world are apart -/
def Dj (Ω : Wm) : Prop := ∀ i j, i < Ω.2.1.length → j < Ω.2.1.length → Ω.2.2.1 i = Ω.2.2.1 j → i = j
theorem Dj.D {Ω : Wm} (h : Dj Ω) (σ : Sg) (sz : Nat) : va_D (Ar Ω sz) (wl Ω σ) := by
  have key : ∀ (k : Nat) (q : Nat × va_E), (wl Ω σ)[k]? = some q → k < Ω.2.1.length ∧ q.1 = Ω.2.2.1 k := by
    intro k q hk
    have hl := (List.getElem?_eq_some_iff.mp hk).1
    rw [wl_len] at hl
    rw [wl_at (List.getElem?_eq_getElem hl)] at hk
    exact ⟨hl, by rw [← Option.some.inj hk]⟩
  refine ⟨fun i j x y hi hj hxy => ?_, fun k q hk => ?_⟩
  · obtain ⟨a1, a2⟩ := key i x hi
    obtain ⟨b1, b2⟩ := key j y hj
    exact h i j a1 b1 (by rw [← a2, ← b2]; exact hxy)
  · obtain ⟨a1, a2⟩ := key k q hk
    exact Or.inl ⟨k, a1, a2⟩
/-- the two arrays of constants of the hash: the class's statics -/
def K64 (j : Nat) : Int32 := (#[0x428a2f98, 0x71374491, 0xb5c0fbcf, 0xe9b5dba5, 0x3956c25b, 0x59f111f1, 0x923f82a4, 0xab1c5ed5, 0xd807aa98, 0x12835b01, 0x243185be, 0x550c7dc3, 0x72be5d74, 0x80deb1fe, 0x9bdc06a7, 0xc19bf174, 0xe49b69c1, 0xefbe4786, 0x0fc19dc6, 0x240ca1cc, 0x2de92c6f, 0x4a7484aa, 0x5cb0a9dc, 0x76f988da, 0x983e5152, 0xa831c66d, 0xb00327c8, 0xbf597fc7, 0xc6e00bf3, 0xd5a79147, 0x06ca6351, 0x14292967, 0x27b70a85, 0x2e1b2138, 0x4d2c6dfc, 0x53380d13, 0x650a7354, 0x766a0abb, 0x81c2c92e, 0x92722c85, 0xa2bfe8a1, 0xa81a664b, 0xc24b8b70, 0xc76c51a3, 0xd192e819, 0xd6990624, 0xf40e3585, 0x106aa070, 0x19a4c116, 0x1e376c08, 0x2748774c, 0x34b0bcb5, 0x391c0cb3, 0x4ed8aa4a, 0x5b9cca4f, 0x682e6ff3, 0x748f82ee, 0x78a5636f, 0x84c87814, 0x8cc70208, 0x90befffa, 0xa4506ceb, 0xbef9a3f7, 0xc67178f2] : Array Int32).getD j 0
def H8 (j : Nat) : Int32 := (#[0x6a09e667, 0xbb67ae85, 0x3c6ef372, 0xa54ff53a, 0x510e527f, 0x9b05688c, 0x1f83d9ab, 0x5be0cd19] : Array Int32).getD j 0
def IsS1 (Ω : Wm) (sz : Nat) (s : State) (t : Nat) (H : Heap) : Prop := va_Z RX4 "ROUND_WORDS" "[I" (.ref t) (Ar Ω sz) s H ∧ va_T .int t 64 (fun j => .int (K64 j)) (Ar Ω sz) s H
def IsS2 (Ω : Wm) (sz : Nat) (s : State) (t : Nat) (H : Heap) : Prop := va_Z RX4 "FIRST_STATE" "[I" (.ref t) (Ar Ω sz) s H ∧ va_X t 8 H8 s H ∧ t < H.size ∧ ¬ Ar Ω sz t
def St (Ω : Wm) (sz : Nat) (s : State) (H : Heap) : Prop := (∃ t, IsS1 Ω sz s t H) ∧ ∃ t, IsS2 Ω sz s t H
theorem Ar.mono {Ω : Wm} {a b : Nat} (h : a ≤ b) : ∀ q, Ar Ω b q → Ar Ω a q := fun _ hq => hq.imp id (Nat.le_trans h)
theorem St.moved {Ω : Wm} {sz : Nat} {u U : State} {H : Heap} (hvm : u.vm.Alike U.vm) (h : St Ω sz u H) : St Ω sz U H := by
  obtain ⟨⟨t, h1, h2⟩, t2, h3, h4, h5, h6⟩ := h
  exact ⟨⟨t, h1.moved hvm, h2.moved hvm⟩, t2, h3.moved hvm, h4.moved hvm, h5, h6⟩
theorem St.kept {Ω : Wm} {sz sz2 : Nat} {U : State} {H H1 : Heap} (hz : sz ≤ sz2) (hs : H.size ≤ H1.size) (h : St Ω sz U H) (hq : ∀ a : Nat, a < H.size → ¬ Ar Ω sz a → H1[a]? = H[a]?) : St Ω sz2 U H1 := by
  obtain ⟨⟨t, h1, h2⟩, t2, h3, h4, h5, h6⟩ := h
  exact ⟨⟨t, (h1.kept hq).narrow (Ar.mono hz), (h2.kept hq).narrow (Ar.mono hz)⟩, t2, (h3.kept hq).narrow (Ar.mono hz), h4.kept (hq t2 h5 h6), Nat.lt_of_lt_of_le h5 hs, fun z => h6 (Ar.mono hz _ z)⟩
/-- the links among nest mates -/
def NW (U : State) : Prop := (∀ q ∈ NBf, va_Nw (.fieldLinkNest q.1 q.2.1 q.2.2.1 q.2.2.2.1 q.2.2.2.2.1 q.2.2.2.2.2) U) ∧ ∀ q ∈ NBm, va_Nw (.methodLinkNest q.1 q.2.1 q.2.2.1 q.2.2.2) U
theorem NW.same {u U : State} (h : NW u) (hvm : u.vm = U.vm) : NW U := ⟨fun q hq => (h.1 q hq).same rfl hvm, fun q hq => (h.2 q hq).same rfl hvm⟩
theorem NW.warm {s U : State} (h : NW s) (hW : s.WarmedH U.vm) : NW U := ⟨fun q hq => (h.1 q hq).warmF hW, fun q hq => (h.2 q hq).warmM hW⟩
/-- what a method of a world is called with: its room is rm, the world holds σ -/
def PB (Ω : Wm) (sz : Nat) (σ : Sg) (U : State) : Prop := U.heap.size = sz ∧ va_P Ω.1 CLs (wl Ω σ) U.heap ∧ va_K Ω.1 CLs (tys Ω) U ∧ Dj Ω ∧ St Ω sz U U.heap ∧ NW U
def BA (Ω : Wm) (u : Sg) (t : State) : Prop := va_P Ω.1 CLs (wl Ω u) t.heap
abbrev Qt : Type := Nat → Array Value → State → Outcome → State → Prop
def Ct (l : Launch) (y : MethodName) (cc : ByteArray) (nL : Nat) (ret : Option FieldType) (fr lo : Nat) (Ω : Wm) (av : List Value) (σ : Sg) (Qc : Qt) : Prop :=
  ∀ sz, Met l y (.code y cc nL ret :: GW) ({ frames := fr, cells := 0, slots := 0, locals := lo }) (va_Pc av (PB Ω sz σ)) (Qc sz) 0 0 (Ar Ω sz)
def QI (Ω : Wm) (Po : Int32 → Sg → Prop) : Qt := fun sz => va_Qi Po (BA Ω) (Ar Ω sz)
def QL (Ω : Wm) (Po : Int64 → Sg → Prop) : Qt := fun sz => va_Ql Po (BA Ω) (Ar Ω sz)
def QV (Ω : Wm) (Po : Sg → Prop) : Qt := fun sz => va_Qv Po (BA Ω) (Ar Ω sz)
def QR (Ω : Wm) (Po : Nat → Sg → Prop) : Qt := fun sz => va_Qr (S := Nat × Sg) (fun u => Po u.1 u.2) (fun u a t => a = Ω.2.2.1 u.1 ∧ BA Ω u.2 t) (Ar Ω sz)
abbrev Gm : Type := Program × Launch × Env × Room × State × MethodId × Array Value × List Frame × Method × Code × (State → Prop)
def WW (Γ : Gm) (H : Heap) (locs : List Loc) (g : JFrame) : Prop := match Γ with
  | (p, l, e, R, s, m, args, below, meth, c, Q) => W p l e R s m args below meth c H locs 0 0 Q g
def gS (Γ : Gm) : State := Γ.2.2.2.2.1
def gM (Γ : Gm) : MethodId := Γ.2.2.2.2.2.1
/-- from here the method goes on well: at pc, with these locals, this stack, this state -/
def OK (Γ : Gm) (Ω : Wm) (nL : Nat) (pc : Nat) (L : List (Nat × Value)) (st : List Value) (σ : Sg) : Prop :=
  ∀ (ls : Array Slot) (H : Heap) (locs : List Loc), lv_has ls nL L → va_P Ω.1 CLs (wl Ω σ) H → va_S (Ar Ω (gS Γ).heap.size) (gS Γ).heap H locs → WW Γ H locs (F0 (gM Γ) pc ls st)
/-- what is fixed while a method runs -/
def Cx (Γ : Gm) (Ω : Wm) (cc : ByteArray) (nL : Nat) (own : String) (ret : Option FieldType) (fr lo : Nat) (l0 : Launch) (Qc : Qt) : Prop := match Γ with
  | (p, l, _, R, s, m, args, below, meth, c, Q) => p.tables.exec = Jvm.exec ∧ c.code = cc ∧ c.maxLocals = nL ∧ s.vm.findClass own = some m.cls ∧ (∀ w ∈ GW, w.before args s = true) ∧ va_K Ω.1 CLs (tys Ω) s ∧ Dj Ω ∧ St Ω s.heap.size s s.heap ∧ meth.locks = false ∧ meth.sig.returnType = ret ∧ R = ({ frames := fr, cells := 0, slots := 0, locals := lo } : Room) ∧ l = l0 ∧ Q = MQ below (Qc s.heap.size) args s 0 0 (Ar Ω s.heap.size) ∧ NW s
theorem Ct.of {l : Launch} {y : MethodName} {cc : ByteArray} {nL : Nat} {ret : Option FieldType} {fr lo : Nat} {Ω : Wm} {av : List Value} {σ : Sg} {Qc : Qt} (hy : plainName y.cls = true) (hn : (lg_sl av).length ≤ nL)
    (h : ∀ Γ : Gm, Cx Γ Ω cc nL y.cls ret fr lo l Qc → OK Γ Ω nL 0 (lv_args 0 av) [] σ) : Ct l y cc nL ret fr lo Ω av σ Qc := by
  intro sz
  refine Met.ofW (cc := cc) (maxL := nL) (ret := ret) hy rfl ?_
  intro p e s m args below meth c s₁ B hml hv
  obtain ⟨rfl, hsz, hP, hK, hD, hSt, hN⟩ := hv
  subst hsz
  have hts := atoms_spec (ws := .code y cc nL ret :: GW) B.pre
  have hl := lv_entry av (n := nL) hn
  rw [lg_entry_eq]
  exact h (p, l, e, _, s, m, _, below, meth, c, _) ⟨B.exec, B.bytes, hml, findClass_of_methodNamed B.named, fun w hw => hts w (List.mem_cons_of_mem _ hw), hK, hD, hSt, B.notSynchronized, B.returns, rfl, rfl, rfl, hN⟩ _ _ _ hl hP va_S.rf
