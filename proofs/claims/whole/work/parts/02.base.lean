/-! ABSTRACT VALUES AND HEAPS. Numbers are mathematical, references are the numbers of objects in the order in which they were made. -/
abbrev AV : Type := Int ⊕ (Int ⊕ (Option Nat ⊕ Nat))
/-- the text of words, its bytes, the formatter of faults: where they stand -/
abbrev WT : Type := Nat × Nat × Option Nat
abbrev vI (i : Int) : AV := .inl i
abbrev vL (i : Int) : AV := .inr (.inl i)
abbrev vR (r : Option Nat) : AV := .inr (.inr (.inl r))
abbrev vS : AV := .inr (.inr (.inr 0))
abbrev vB : AV := .inr (.inr (.inr 1))
abbrev vF : AV := .inr (.inr (.inr 2))
/-- a kind: an object of a made kind, or an array (tag, length); tags: 0 int, 1 boolean, 2 long, 3 Isle, 4 Text -/
abbrev AK : Type := Nat ⊕ (Nat × Nat)
abbrev AH : Type := Nat × (Nat → AK) × (Nat → Int → Int) × (Nat → Int → Int) × (Nat → Int → Option Nat)
def hn (h : AH) : Nat := h.1
def kd (h : AH) (o : Nat) : AK := h.2.1 o
def gi (h : AH) (o : Nat) (k : Int) : Int := h.2.2.1 o k
def gl (h : AH) (o : Nat) (k : Int) : Int := h.2.2.2.1 o k
def rf (h : AH) (o : Nat) (k : Int) : Option Nat := h.2.2.2.2 o k
abbrev R32 (x : Int) : Prop := -2147483648 ≤ x ∧ x ≤ 2147483647
abbrev R64 (x : Int) : Prop := -9223372036854775808 ≤ x ∧ x ≤ 9223372036854775807
def upZ {α : Type} (f : Nat → Int → α) (a : Nat) (i : Int) (v : α) : Nat → Int → α := fun a' i' => if a' = a ∧ i' = i then v else f a' i'
def si (h : AH) (a : Nat) (i v : Int) : AH := (h.1, h.2.1, upZ h.2.2.1 a i v, h.2.2.2.1, h.2.2.2.2)
def sl (h : AH) (a : Nat) (i v : Int) : AH := (h.1, h.2.1, h.2.2.1, upZ h.2.2.2.1 a i v, h.2.2.2.2)
def sr (h : AH) (a : Nat) (i : Int) (v : Option Nat) : AH := (h.1, h.2.1, h.2.2.1, h.2.2.2.1, upZ h.2.2.2.2 a i v)
/-- a new object of kind t; its number is hn h -/
def nw (h : AH) (t : AK) : AH := (h.1 + 1, (fun o => if o = h.1 then t else h.2.1 o), (fun o k => if o = h.1 then 0 else h.2.2.1 o k), (fun o k => if o = h.1 then 0 else h.2.2.2.1 o k), fun o k => if o = h.1 then none else h.2.2.2.2 o k)
/-- n places of array b from dp on become those of a from sp on -/
def cpy (h : AH) (a : Nat) (sp : Int) (b : Nat) (dp n : Int) : AH := (h.1, h.2.1, (fun o k => if o = b ∧ dp ≤ k ∧ k < dp + n then h.2.2.1 a (sp + (k - dp)) else h.2.2.1 o k), h.2.2.2.1, h.2.2.2.2)
/-- array a whole as a new array -/
def cln (h : AH) (a : Nat) : AH := (h.1 + 1, (fun o => if o = h.1 then h.2.1 a else h.2.1 o), (fun o k => if o = h.1 then h.2.2.1 a k else h.2.2.1 o k), (fun o k => if o = h.1 then 0 else h.2.2.2.1 o k), fun o k => if o = h.1 then none else h.2.2.2.2 o k)
def wv (w0 : WT) (u : Nat) : Value := match u with
  | 0 => .ref w0.1
  | 1 => .ref w0.2.1
  | _ => va_rf w0.2.2
def cv (w0 : WT) (ad : Nat → Nat) (v : AV) : Value := match v with
  | .inl i => .int (Int32.ofInt i)
  | .inr (.inl i) => .long (Int64.ofInt i)
  | .inr (.inr (.inl r)) => va_rf (r.map ad)
  | .inr (.inr (.inr u)) => wv w0 u
theorem cv_I (w0 : WT) (ad : Nat → Nat) (i : Int) : cv w0 ad (vI i) = .int (Int32.ofInt i) := rfl
theorem cv_L (w0 : WT) (ad : Nat → Nat) (i : Int) : cv w0 ad (vL i) = .long (Int64.ofInt i) := rfl
theorem cv_R (w0 : WT) (ad : Nat → Nat) (r : Nat) : cv w0 ad (vR (some r)) = .ref (ad r) := rfl
theorem cv_N (w0 : WT) (ad : Nat → Nat) : cv w0 ad (vR none) = .null := rfl
def ftc (t : FieldType) : Nat := match t with
  | .int => 0
  | .boolean => 0
  | .long => 1
  | _ => 2
def vwTy (ci : Nat) : Nat → FieldType := match ci with
  | 0 => tyX0
  | 1 => tyX1
  | 2 => tyX2
  | 3 => tyX3
  | 4 => tyX4
  | 5 => tyX5
  | 6 => tyX6
  | 7 => tyX7
  | _ => tyX8
def ft (ci k : Nat) : Nat := ftc (vwTy ci k)
def nf (ci : Nat) : Nat := ((vwCl[ci]?).map (fun q => q.2.2)).getD 0
def fv (ad : Nat → Nat) (h : AH) (o ci k : Nat) : Value := match ft ci k with
  | 0 => .int (Int32.ofInt (gi h o k))
  | 1 => .long (Int64.ofInt (gl h o k))
  | _ => va_rf ((rf h o k).map ad)
def ca (ad : Nat → Nat) (h : AH) (o t : Nat) : (Nat → Int32) ⊕ (Nat → Int64) ⊕ (Nat → UInt32) ⊕ (Nat → UInt64) ⊕ (Nat → Option Nat) := match t with
  | 0 => .inl (fun j => Int32.ofInt (gi h o j))
  | 1 => .inl (fun j => Int32.ofInt (gi h o j))
  | 2 => .inr (.inl (fun j => Int64.ofInt (gl h o j)))
  | _ => .inr (.inr (.inr (.inr (fun j => (rf h o j).map ad))))
def ce (cA : Nat → ClassId) (ad : Nat → Nat) (h : AH) (o : Nat) : va_E := match kd h o with
  | .inl ci => .inr (ci, (List.range (nf ci)).map (fun k => fv ad h o ci k))
  | .inr (t, n) => .inl (cA t, n, ca ad h o t)
/-- the cells of a heap -/
def cw (cA : Nat → ClassId) (ad : Nat → Nat) (h : AH) : va_W := (List.range (hn h)).map (fun o => (ad o, ce cA ad h o))
def OkH (h : AH) : Prop := (∀ o k, R32 (gi h o k)) ∧ (∀ o k, R64 (gl h o k)) ∧ ∀ o k r, rf h o k = some r → r < hn h
def OkV (h : AH) (v : AV) : Prop := match v with
  | .inl i => R32 i
  | .inr (.inl i) => R64 i
  | .inr (.inr (.inl r)) => ∀ k, r = some k → k < hn h
  | .inr (.inr (.inr _)) => True
/-- what of the objects is known once for all: kinds, references -/
abbrev GT : Type := (Nat → Option AK) × (Nat → Int → Option Nat)
def Gd (G : GT) (h : AH) : Prop := (∀ o t, G.1 o = some t → kd h o = t ∧ o < hn h) ∧ ∀ o k r, G.2 o k = some r → rf h o k = some r
def Kd (G : GT) (h : AH) (o : Nat) (t : AK) : Prop := G.1 o = some t ∨ (kd h o = t ∧ o < hn h)
theorem Kd.use {G : GT} {h : AH} {o : Nat} {t : AK} (k : Kd G h o t) (g : Gd G h) : kd h o = t ∧ o < hn h := k.elim (g.1 o t) id
def tysJ (cA : Nat → ClassId) : List (ClassId × FieldType) := [(cA 0, .int), (cA 1, .boolean), (cA 2, .long), (cA 3, .object RX5), (cA 4, .object RX5)]
/-- the text of words, and where it stands -/
def wTx : String := "door wide wood home house size cell fish catch day mood done latest open at catches slams fits bars launch sail hang tide by in times if or and not "
def wBy : List Int32 := wTx.toList.map (fun c => Int32.ofNat c.toNat)
def SFs (w0 : WT) (A : Nat → Prop) (U : State) (H : Heap) : Prop := vk_R RX3 102 wTx w0.1 U ∧ vk_S 1 [wBy.length] [wBy] (fun _ => w0.1) (fun _ => w0.2.1) A U H ∧ va_Z "java/lang/String" "COMPACT_STRINGS" "Z" (.int 1) A U H ∧ va_Z "jdk/internal/util/Preconditions" "SIOOBE_FORMATTER" "Ljava/util/function/BiFunction;" (va_rf w0.2.2) A U H
theorem SFs.kept {w0 : WT} {A : Nat → Prop} {U : State} {H H1 : Heap} (h : SFs w0 A U H) (hq : ∀ a : Nat, a < H.size → ¬ A a → H1[a]? = H[a]?) : SFs w0 A U H1 := by
  obtain ⟨h1, h2, h3, h4⟩ := h
  exact ⟨h1, h2.kept hq, h3.kept hq, h4.kept hq⟩
theorem SFs.narrow {w0 : WT} {A B : Nat → Prop} {U : State} {H : Heap} (h : SFs w0 A U H) (hAB : ∀ q, B q → A q) : SFs w0 B U H := by
  obtain ⟨h1, h2, h3, h4⟩ := h
  exact ⟨h1, h2.narrow hAB, h3.narrow hAB, h4.narrow hAB⟩
theorem SFs.warm {w0 : WT} {A : Nat → Prop} {s U : State} {H : Heap} (hW : s.WarmedH U.vm) (h : SFs w0 A s H) : SFs w0 A U H := by
  obtain ⟨h1, h2, h3, h4⟩ := h
  exact ⟨h1.warm hW, h2.moved hW.alike, h3.moved hW.alike, h4.moved hW.alike⟩
/-- locals: what stands at their places, as far as it is known -/
def LocR (w0 : WT) (ad : Nat → Nat) (ls : Array Slot) (nL : Nat) (loc : List (Option AV)) : Prop :=
  ls.size = nL ∧ lv_wf ls ∧ loc.length = nL ∧ ∀ (i : Nat) (v : AV), loc[i]? = some (some v) → ls[i]? = some (.val (cv w0 ad v))
def isL (v : Option AV) : Bool := match v with
  | some (.inr (.inl _)) => true
  | _ => false
def clrp (loc : List (Option AV)) (i : Nat) : List (Option AV) := match i with
  | 0 => loc
  | j + 1 => if isL (loc.getD j none) then loc.set j none else loc
def ls1 (loc : List (Option AV)) (i : Nat) (v : AV) : List (Option AV) := (clrp loc i).set i (some v)
def ls2 (loc : List (Option AV)) (i : Nat) (v : AV) : List (Option AV) := ((clrp loc i).set i (some v)).set (i + 1) none
def locA (vs : List AV) : List (Option AV) := match vs with
  | [] => []
  | v :: r => if isL (some v) then some v :: none :: locA r else some v :: locA r
def locE (vs : List AV) (n : Nat) : List (Option AV) := locA vs ++ List.replicate (n - (locA vs).length) none
/-- words that no Met carries, but every state behind another -/
def keepW (w : Cond) : Bool := match w with
  | .fieldLinkNest .. => true
  | .methodLinkNest .. => true
  | .castable .. => true
  | .arrayOver (.object _) => true
  | _ => false
def okW (w : Cond) : Bool := goodWord w || keepW w
def jG : List Cond := lw_tbl.filter goodWord
def jT : List Cond := lw_tbl.filter okW
theorem mem_jT {w : Cond} (h : w ∈ lw_tbl) (k : okW w = true) : w ∈ jT := List.mem_filter.mpr ⟨h, k⟩
/-- a method: its name, bytes, locals, what it answers -/
abbrev Mth : Type := MethodName × ByteArray × Nat × Option FieldType
def wsJ (y : Mth) : List Cond := .code y.1 y.2.1 y.2.2.1 y.2.2.2 :: jG
def rmJ (d B : Nat) : Room := { frames := d, cells := B, slots := B, locals := 64 * d }
/-- a method's end: its answer, its heap -/
def QJ (G : GT) (cA : Nat → ClassId) (D : va_G) (w0 : WT) (A : Nat → Prop) (n0 : Nat) (ad0 : Nat → Nat) (Q : Option AV → AH → Prop) : Array Value → State → Outcome → State → Prop := fun _ st oc t =>
  ∃ (r : Option AV) (h' : AH) (ad' : Nat → Nat), oc = .returned (r.map (cv w0 ad')) ∧ (∀ k, k < n0 → ad' k = ad0 k) ∧ n0 ≤ hn h' ∧ va_P D vwCl (cw cA ad' h') t.heap ∧ va_D A (cw cA ad' h') ∧ OkH h' ∧ Gd G h' ∧ (∀ v, r = some v → OkV h' v) ∧ va_F A st t ∧ Q r h'
/-- a method's start -/
def PJ (G : GT) (cA : Nat → ClassId) (D : va_G) (w0 : WT) (A : Nat → Prop) (sz : Nat) (ad : Nat → Nat) (h : AH) (U : State) : Prop :=
  U.heap.size = sz ∧ va_P D vwCl (cw cA ad h) U.heap ∧ va_K D vwCl (tysJ cA) U ∧ va_D (fun _ => True) (cw cA ad h) ∧ SFs w0 A U U.heap ∧ ∀ w ∈ jT, keepW w = true → w.before #[] U = true
/-- a method, called with these values over this heap, ends, and Q holds of its answer and its heap; d: how deep its calls go at most; b: how much room what it makes takes at most -/
def WM (G : GT) (d b : Nat) (y : Mth) (vs : List AV) (h : AH) (Q : Option AV → AH → Prop) : Prop :=
  ∀ (l : Launch) (D : va_G) (cA : Nat → ClassId) (w0 : WT) (sz : Nat) (ad : Nat → Nat), OkH h → Gd G h → (∀ v ∈ vs, OkV h v) →
    Met l y.1 (wsJ y) (rmJ d b) (va_Pc (vs.map (cv w0 ad)) (PJ G cA D w0 (va_A (cw cA ad h) sz) sz ad h)) (QJ G cA D w0 (va_A (cw cA ad h) sz) (hn h) ad Q) b b (va_A (cw cA ad h) sz)
abbrev EJ (y : Mth) (p : Program) (s : State) (m : MethodId) (args : Array Value) (meth : Method) (c : Code) : Prop :=
  p.tables.exec = Jvm.exec ∧ c.code = y.2.1 ∧ c.maxLocals = y.2.2.1 ∧ meth.sig.returnType = y.2.2.2 ∧ (∀ w ∈ jT, w.before args s = true) ∧ s.vm.findClass y.1.cls = some m.cls ∧ meth.name = y.1.name ∧ meth.locks = false
/-- what holds while a method runs -/
abbrev CJ (G : GT) (b : Nat) (y : Mth) (loc : List (Option AV)) (st : List AV) (h : AH) (p : Program) (s : State) (m : MethodId) (args : Array Value) (meth : Method) (c : Code) (D : va_G) (cA : Nat → ClassId) (w0 : WT) (A : Nat → Prop) (B n0 : Nat) (ad0 ad : Nat → Nat) (H : Heap) (ls : Array Slot) (locs : List Loc) (cells slots : Nat) : Prop :=
  EJ y p s m args meth c ∧ va_K D vwCl (tysJ cA) s ∧ (∀ q, s.heap.size ≤ q → A q) ∧ SFs w0 A s s.heap ∧ va_P D vwCl (cw cA ad h) H ∧ va_D A (cw cA ad h) ∧ va_S A s.heap H locs ∧ OkH h ∧ Gd G h ∧ (∀ v ∈ st, OkV h v) ∧ (∀ v, some v ∈ loc → OkV h v) ∧ LocR w0 ad ls y.2.2.1 loc ∧ (∀ k, k < n0 → ad k = ad0 k) ∧ n0 ≤ hn h ∧ cells + b ≤ B ∧ slots + b ≤ B
/-- from here on the method comes to its end with Q -/
def J (G : GT) (d b : Nat) (y : Mth) (Q : Option AV → AH → Prop) (pc : Nat) (loc : List (Option AV)) (st : List AV) (h : AH) : Prop :=
  ∀ (p : Program) (l : Launch) (e : Env) (s : State) (m : MethodId) (args : Array Value) (below : List Frame) (meth : Method) (c : Code) (D : va_G) (cA : Nat → ClassId) (w0 : WT) (A : Nat → Prop) (B n0 : Nat) (ad0 ad : Nat → Nat) (H : Heap) (ls : Array Slot) (locs : List Loc) (cells slots : Nat),
    CJ G b y loc st h p s m args meth c D cA w0 A B n0 ad0 ad H ls locs cells slots →
    W p l e (rmJ d B) s m args below meth c H locs cells slots (MQ below (QJ G cA D w0 A n0 ad0 Q) args s B B A) (F0 m pc ls (st.map (cv w0 ad)))
theorem cw_get {cA : Nat → ClassId} {ad : Nat → Nat} {h : AH} {o : Nat} (ho : o < hn h) : (cw cA ad h)[o]? = some (ad o, ce cA ad h o) := by
  simp [cw, ho]
theorem cw_len {cA : Nat → ClassId} {ad : Nat → Nat} {h : AH} : (cw cA ad h).length = hn h := by simp [cw]
theorem cw_inv {cA : Nat → ClassId} {ad : Nat → Nat} {h : AH} {k : Nat} {q : Nat × va_E} (e : (cw cA ad h)[k]? = some q) : k < hn h ∧ q = (ad k, ce cA ad h k) := by
  have hk : k < hn h := by
    have := (List.getElem?_eq_some_iff.mp e).1
    rwa [cw_len] at this
  refine ⟨hk, ?_⟩
  rw [cw_get hk] at e
  exact (Option.some.inj e).symm
theorem cw_ext {cA : Nat → ClassId} {ad ad' : Nat → Nat} {h h' : AH} (hh : hn h' = hn h) (e : ∀ o, o < hn h → ad' o = ad o ∧ ce cA ad' h' o = ce cA ad h o) : cw cA ad' h' = cw cA ad h := by
  unfold cw
  rw [hh]
  refine List.map_congr_left fun o ho => ?_
  obtain ⟨e1, e2⟩ := e o (List.mem_range.mp ho)
  rw [e1, e2]
/-- one cell changed -/
theorem cw_set {cA : Nat → ClassId} {ad : Nat → Nat} {h h' : AH} {a : Nat} {E : va_E} (hh : hn h' = hn h) (ha : a < hn h) (e1 : ce cA ad h' a = E) (e2 : ∀ o, o < hn h → o ≠ a → ce cA ad h' o = ce cA ad h o) : (cw cA ad h).set a (ad a, E) = cw cA ad h' := by
  refine List.ext_getElem? fun k => ?_
  by_cases hk : k < hn h
  · rw [cw_get (h := h') (hh ▸ hk)]
    by_cases hka : k = a
    · subst hka
      rw [List.getElem?_set_self (by rw [cw_len]; exact hk), e1]
    · rw [List.getElem?_set_ne (fun q => hka q.symm), cw_get hk, e2 k hk hka]
  · rw [List.getElem?_eq_none (by rw [List.length_set, cw_len]; omega), List.getElem?_eq_none (by rw [cw_len, hh]; omega)]
/-- one cell more -/
theorem cw_new {cA : Nat → ClassId} {ad : Nat → Nat} {h h' : AH} {q : Nat} {E : va_E} (hh : hn h' = hn h + 1) (e1 : ce cA (fun k => if k = hn h then q else ad k) h' (hn h) = E) (e2 : ∀ o, o < hn h → ce cA (fun k => if k = hn h then q else ad k) h' o = ce cA ad h o) : cw cA ad h ++ [(q, E)] = cw cA (fun k => if k = hn h then q else ad k) h' := by
  unfold cw
  rw [hh, List.range_succ, List.map_append]
  congr 1
  · refine List.map_congr_left fun o ho => ?_
    have ho' := List.mem_range.mp ho
    rw [e2 o ho']
    dsimp only
    rw [if_neg (by omega)]
  · simp [e1]
theorem ce_obj {cA : Nat → ClassId} {ad : Nat → Nat} {h : AH} {o ci : Nat} (hk : kd h o = .inl ci) : ce cA ad h o = .inr (ci, (List.range (nf ci)).map (fun k => fv ad h o ci k)) := by
  unfold ce; rw [hk]
theorem ce_arr {cA : Nat → ClassId} {ad : Nat → Nat} {h : AH} {o t n : Nat} (hk : kd h o = .inr (t, n)) : ce cA ad h o = .inl (cA t, n, ca ad h o t) := by
  unfold ce; rw [hk]
theorem fs_get {ad : Nat → Nat} {h : AH} {o ci k : Nat} (hk : k < nf ci) : ((List.range (nf ci)).map (fun k => fv ad h o ci k))[k]? = some (fv ad h o ci k) := by simp [hk]
theorem map_ad {ad ad' : Nat → Nat} {r : Option Nat} (h : ∀ k, r = some k → ad' k = ad k) : r.map ad' = r.map ad := by
  cases r with
  | none => rfl
  | some k => simp [h k rfl]
/-- a cell looks the same through other addresses, if its references do -/
theorem ce_ad {cA : Nat → ClassId} {ad ad' : Nat → Nat} {h h' : AH} {o : Nat} (hk : kd h' o = kd h o) (hg : gi h' o = gi h o) (hl : gl h' o = gl h o) (hr : rf h' o = rf h o) (ha : ∀ k r, rf h o k = some r → ad' r = ad r) : ce cA ad' h' o = ce cA ad h o := by
  unfold ce
  rw [hk]
  have e1 : ∀ ci k, fv ad' h' o ci k = fv ad h o ci k := by
    intro ci k
    unfold fv
    rw [hg, hl, hr, map_ad (ha k)]
  have e2 : ∀ t, ca ad' h' o t = ca ad h o t := by
    intro t
    unfold ca
    rw [hg, hl, hr]
    have : (fun j : Nat => (rf h o j).map ad') = (fun j : Nat => (rf h o j).map ad) := funext fun j => map_ad (ha j)
    rw [this]
  split <;> simp [e1, e2]
