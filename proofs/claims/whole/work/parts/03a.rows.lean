/-! ROWS OF J: numbers, locals, branches -/
theorem z32 {x : Int} (h : R32 x) : (Int32.ofInt x).toInt = x := Int32.toInt_ofInt_of_le (by omega) (by omega)
theorem z64 {x : Int} (h : R64 x) : (Int64.ofInt x).toInt = x := Int64.toInt_ofInt_of_le (by omega) (by omega)
theorem i32_lt {x y : Int} (hx : R32 x) (hy : R32 y) : Int32.ofInt x < Int32.ofInt y ↔ x < y := by rw [Int32.lt_iff_toInt_lt, z32 hx, z32 hy]
theorem i32_le {x y : Int} (hx : R32 x) (hy : R32 y) : Int32.ofInt x ≤ Int32.ofInt y ↔ x ≤ y := by rw [Int32.le_iff_toInt_le, z32 hx, z32 hy]
theorem i32_eq {x y : Int} (hx : R32 x) (hy : R32 y) : Int32.ofInt x = Int32.ofInt y ↔ x = y := by rw [← Int32.toInt_inj, z32 hx, z32 hy]
theorem i64_lt {x y : Int} (hx : R64 x) (hy : R64 y) : Int64.ofInt x < Int64.ofInt y ↔ x < y := by rw [Int64.lt_iff_toInt_lt, z64 hx, z64 hy]
theorem i64_eq {x y : Int} (hx : R64 x) (hy : R64 y) : Int64.ofInt x = Int64.ofInt y ↔ x = y := by rw [← Int64.toInt_inj, z64 hx, z64 hy]
theorem i32_0 : (0 : Int32) = Int32.ofInt 0 := by decide
theorem r32_0 : R32 0 := by decide
theorem r32_of (x : Int32) : R32 x.toInt := by
  have h1 := x.minValue_le_toInt
  have h2 := x.toInt_le
  have h3 : Int32.minValue.toInt = -2147483648 := by decide
  have h4 : Int32.maxValue.toInt = 2147483647 := by decide
  omega
theorem r64_of (x : Int64) : R64 x.toInt := by
  have h1 := x.minValue_le_toInt
  have h2 := x.toInt_le
  have h3 : Int64.minValue.toInt = -9223372036854775808 := by decide
  have h4 : Int64.maxValue.toInt = 9223372036854775807 := by decide
  omega
theorem i32_min : Int32.minValue.toInt = -2147483648 := by decide
theorem i32_max : Int32.maxValue.toInt = 2147483647 := by decide
theorem i64_min : Int64.minValue.toInt = -9223372036854775808 := by decide
theorem i64_max : Int64.maxValue.toInt = 9223372036854775807 := by decide
/-- what the machine's operations on bits make of numbers -/
def zand (x y : Int) : Int := (Int32.ofInt x &&& Int32.ofInt y).toInt
def zor (x y : Int) : Int := (Int32.ofInt x ||| Int32.ofInt y).toInt
def zxor (x y : Int) : Int := (Int32.ofInt x ^^^ Int32.ofInt y).toInt
def zshl (x y : Int) : Int := (Int32.ofInt x <<< (Int32.ofInt y &&& 31)).toInt
def zshr (x y : Int) : Int := (Int32.ofInt x >>> (Int32.ofInt y &&& 31)).toInt
def zushr (x y : Int) : Int := (((Int32.ofInt x).toUInt32 >>> ((Int32.ofInt y).toUInt32 &&& Int32.toUInt32 31)).toInt32).toInt
def zl2i (x : Int) : Int := (Int64.ofInt x).toInt32.toInt
def zcmp (x y : Int) : Int := if x < y then -1 else if x = y then 0 else 1
theorem wv_cat (w0 : WT) : ∀ u : Nat, (wv w0 u).category = 1
  | 0 => rfl
  | 1 => rfl
  | u + 2 => by
    show (va_rf w0.2.2).category = 1
    cases w0.2.2 <;> rfl
theorem cat_cv {w0 : WT} {ad : Nat → Nat} {v : AV} (h : isL (some v) = false) : (cv w0 ad v).category = 1 := by
  rcases v with i | i | r | u
  · rfl
  · cases h
  · cases r <;> rfl
  · exact wv_cat w0 u
theorem cat_cvL {w0 : WT} {ad : Nat → Nat} {v : AV} (h : isL (some v) = true) : (cv w0 ad v).category = 2 := by
  rcases v with i | i | r | u
  · cases h
  · rfl
  · cases h
  · cases h
/-- the locals as the kit lists them -/
def locl (w0 : WT) (ad : Nat → Nat) (loc : List (Option AV)) : List (Nat × Value) := (List.range loc.length).filterMap (fun i => match loc[i]? with
  | some (some v) => some (i, cv w0 ad v)
  | _ => none)
theorem locl_mem {w0 : WT} {ad : Nat → Nat} {loc : List (Option AV)} {q : Nat × Value} : q ∈ locl w0 ad loc ↔ ∃ v, loc[q.1]? = some (some v) ∧ q.2 = cv w0 ad v := by
  unfold locl
  rw [List.mem_filterMap]
  constructor
  · rintro ⟨i, -, h⟩
    split at h
    · rename_i v hv
      cases h
      exact ⟨v, hv, rfl⟩
    · cases h
  · rintro ⟨v, h1, h2⟩
    refine ⟨q.1, List.mem_range.mpr (List.getElem?_eq_some_iff.mp h1).1, ?_⟩
    rw [h1]
    exact congrArg some (Prod.ext rfl h2.symm)
theorem LocR.has {w0 : WT} {ad : Nat → Nat} {ls : Array Slot} {nL : Nat} {loc : List (Option AV)} (h : LocR w0 ad ls nL loc) : lv_has ls nL (locl w0 ad loc) := by
  refine ⟨h.1, h.2.1, fun q hq => ?_⟩
  obtain ⟨v, h1, h2⟩ := locl_mem.mp hq
  rw [h2]
  exact h.2.2.2 q.1 v h1
theorem clrp_len (loc : List (Option AV)) (i : Nat) : (clrp loc i).length = loc.length := by
  cases i with
  | zero => rfl
  | succ j =>
    unfold clrp
    dsimp only
    split
    · exact List.length_set
    · rfl
theorem clrp_get {loc : List (Option AV)} {i j : Nat} {w : AV} (h : (clrp loc i)[j]? = some (some w)) : loc[j]? = some (some w) ∧ ¬ (j + 1 = i ∧ isL (some w) = true) := by
  cases i with
  | zero => exact ⟨h, fun q => by omega⟩
  | succ k =>
    unfold clrp at h
    dsimp only at h
    by_cases hkj : k = j
    · subst hkj
      split at h
      · rename_i hl
        by_cases hk : k < loc.length
        · rw [List.getElem?_set_self hk] at h
          cases h
        · rw [List.getElem?_eq_none (by rw [List.length_set]; omega)] at h
          cases h
      · rename_i hl
        refine ⟨h, fun q => hl ?_⟩
        rw [List.getD_eq_getElem?_getD, h]
        exact q.2
    · have e : loc[j]? = some (some w) := by
        split at h
        · rwa [List.getElem?_set_ne hkj] at h
        · exact h
      exact ⟨e, fun q => hkj (by omega)⟩
theorem LocR.set1 {w0 : WT} {ad : Nat → Nat} {ls : Array Slot} {nL i : Nat} {loc : List (Option AV)} {v : AV} (hloc : loc.length = nL) (h : lv_has ls nL ((i, cv w0 ad v) :: (locl w0 ad loc).filter (fun q => !(q.1 == i) && !(q.1 + 1 == i && q.2.category == 2)))) : LocR w0 ad ls nL (ls1 loc i v) := by
  refine ⟨h.1, h.2.1, by unfold ls1; rw [List.length_set, clrp_len, hloc], fun j w hj => ?_⟩
  unfold ls1 at hj
  by_cases hij : i = j
  · subst hij
    have hlt : i < (clrp loc i).length := by
      have := (List.getElem?_eq_some_iff.mp hj).1
      rwa [List.length_set] at this
    rw [List.getElem?_set_self hlt] at hj
    cases hj
    exact h.2.2 (i, cv w0 ad v) List.mem_cons_self
  · rw [List.getElem?_set_ne hij] at hj
    obtain ⟨h1, h2⟩ := clrp_get hj
    refine h.2.2 (j, cv w0 ad w) (List.mem_cons_of_mem _ (List.mem_filter.mpr ⟨locl_mem.mpr ⟨w, h1, rfl⟩, ?_⟩))
    have e1 : (j == i) = false := by simp; omega
    rw [e1]
    by_cases hl : isL (some w) = true
    · have e2 : (j + 1 == i) = false := by
        simp only [beq_eq_false_iff_ne]
        exact fun q => h2 ⟨q, hl⟩
      rw [e2]
      rfl
    · rw [cat_cv (by simpa using hl)]
      simp
theorem LocR.set2 {w0 : WT} {ad : Nat → Nat} {ls : Array Slot} {nL i : Nat} {loc : List (Option AV)} {v : AV} (hloc : loc.length = nL) (h : lv_has ls nL ((i, cv w0 ad v) :: (locl w0 ad loc).filter (fun q => !(q.1 == i) && (!(q.1 == i + 1) && !(q.1 + 1 == i && q.2.category == 2))))) : LocR w0 ad ls nL (ls2 loc i v) := by
  refine ⟨h.1, h.2.1, by unfold ls2; rw [List.length_set, List.length_set, clrp_len, hloc], fun j w hj => ?_⟩
  unfold ls2 at hj
  by_cases hij1 : i + 1 = j
  · subst hij1
    have hlt : i + 1 < ((clrp loc i).set i (some v)).length := by
      have := (List.getElem?_eq_some_iff.mp hj).1
      rwa [List.length_set] at this
    rw [List.getElem?_set_self hlt] at hj
    cases hj
  · rw [List.getElem?_set_ne hij1] at hj
    by_cases hij : i = j
    · subst hij
      have hlt : i < (clrp loc i).length := by
        have := (List.getElem?_eq_some_iff.mp hj).1
        rwa [List.length_set] at this
      rw [List.getElem?_set_self hlt] at hj
      cases hj
      exact h.2.2 (i, cv w0 ad v) List.mem_cons_self
    · rw [List.getElem?_set_ne hij] at hj
      obtain ⟨h1, h2⟩ := clrp_get hj
      refine h.2.2 (j, cv w0 ad w) (List.mem_cons_of_mem _ (List.mem_filter.mpr ⟨locl_mem.mpr ⟨w, h1, rfl⟩, ?_⟩))
      have e1 : (j == i) = false := by simp; omega
      have e3 : (j == i + 1) = false := by simp; omega
      rw [e1, e3]
      by_cases hl : isL (some w) = true
      · have e2 : (j + 1 == i) = false := by
          simp only [beq_eq_false_iff_ne]
          exact fun q => h2 ⟨q, hl⟩
        rw [e2]
        rfl
      · rw [cat_cv (by simpa using hl)]
        simp
theorem ls_mem {loc : List (Option AV)} {i : Nat} {v w : AV} (h : some w ∈ ls1 loc i v) : w = v ∨ some w ∈ loc := by
  unfold ls1 at h
  rcases List.mem_or_eq_of_mem_set h with h | h
  · obtain ⟨j, hj⟩ := List.getElem?_of_mem h
    exact Or.inr (List.mem_of_getElem? (clrp_get hj).1)
  · cases h
    exact Or.inl rfl
theorem ls2_mem {loc : List (Option AV)} {i : Nat} {v w : AV} (h : some w ∈ ls2 loc i v) : w = v ∨ some w ∈ loc := by
  unfold ls2 at h
  rcases List.mem_or_eq_of_mem_set h with h | h
  · exact ls_mem (i := i) (v := v) h
  · cases h
theorem CJ_st {G : GT} {b : Nat} {y : Mth} {loc : List (Option AV)} {st st' : List AV} {h : AH} {p : Program} {s : State} {m : MethodId} {args : Array Value} {meth : Method} {c : Code} {D : va_G} {cA : Nat → ClassId} {w0 : WT} {A : Nat → Prop} {B n0 : Nat} {ad0 ad : Nat → Nat} {H : Heap} {ls : Array Slot} {locs : List Loc} {cells slots : Nat}
    (C : CJ G b y loc st h p s m args meth c D cA w0 A B n0 ad0 ad H ls locs cells slots) (hv : ∀ v ∈ st', OkV h v) : CJ G b y loc st' h p s m args meth c D cA w0 A B n0 ad0 ad H ls locs cells slots := by
  obtain ⟨c1, c2, c3, c4, c5, c6, c7, c8, c9, -, c10⟩ := C
  exact ⟨c1, c2, c3, c4, c5, c6, c7, c8, c9, hv, c10⟩
theorem CJ_loc {G : GT} {b : Nat} {y : Mth} {loc loc' : List (Option AV)} {st st' : List AV} {h : AH} {p : Program} {s : State} {m : MethodId} {args : Array Value} {meth : Method} {c : Code} {D : va_G} {cA : Nat → ClassId} {w0 : WT} {A : Nat → Prop} {B n0 : Nat} {ad0 ad : Nat → Nat} {H : Heap} {ls ls' : Array Slot} {locs : List Loc} {cells slots : Nat}
    (C : CJ G b y loc st h p s m args meth c D cA w0 A B n0 ad0 ad H ls locs cells slots) (hv : ∀ v ∈ st', OkV h v) (hl : ∀ v, some v ∈ loc' → OkV h v) (hL : LocR w0 ad ls' y.2.2.1 loc') : CJ G b y loc' st' h p s m args meth c D cA w0 A B n0 ad0 ad H ls' locs cells slots := by
  obtain ⟨c1, c2, c3, c4, c5, c6, c7, c8, c9, -, -, -, c10⟩ := C
  exact ⟨c1, c2, c3, c4, c5, c6, c7, c8, c9, hv, hl, hL, c10⟩
theorem ok_c {h : AH} {v : AV} {st : List AV} (a : OkV h v) (b : ∀ v ∈ st, OkV h v) : ∀ w ∈ v :: st, OkV h w := List.forall_mem_cons.mpr ⟨a, b⟩
theorem ok_t {h : AH} {v : AV} {st : List AV} (b : ∀ w ∈ v :: st, OkV h w) : ∀ w ∈ st, OkV h w := (List.forall_mem_cons.mp b).2
theorem ok_h {h : AH} {v : AV} {st : List AV} (b : ∀ w ∈ v :: st, OkV h w) : OkV h v := (List.forall_mem_cons.mp b).1
theorem ok_loc {h : AH} {i : Nat} {v : AV} {loc : List (Option AV)} (b : ∀ v, some v ∈ loc → OkV h v) (e : loc[i]? = some (some v)) : OkV h v := b v (List.mem_of_getElem? e)
section ROWA
variable {G : GT} {d b : Nat} {y : Mth} {Q : Option AV → AH → Prop} {pc : Nat} {loc loc' : List (Option AV)} {st : List AV} {h : AH}

theorem J_iconst {n : Int} (hR : R32 n) (hd : decode y.2.1 pc = .ok (.iconst n, 1)) (k : J G d b y Q (pc + 1) loc (vI n :: st) h) : J G d b y Q pc loc (st) h := by
  intro p l e s m args below meth c D cA w0 A B n0 ad0 ad H ls locs cells slots C
  obtain ⟨⟨hx, hb, hml, hr, hts, hown, hnm, hlk⟩, hK, hA, hSF, hP, hD, hS, hO, hG, hst, hlo, hL, had, hn0, hc, hs⟩ := id C
  have K := k p l e s m args below meth c D cA w0 A B n0 ad0 ad H ls locs cells slots (CJ_st C (ok_c hR hst))
  exact lv_iconst hx hb hd rfl K

theorem J_bipush {n : Int} (hR : R32 n) (hv : (Int8.ofInt n).toInt32 = Int32.ofInt n) (hd : decode y.2.1 pc = .ok (.bipush n, 2)) (k : J G d b y Q (pc + 2) loc (vI n :: st) h) : J G d b y Q pc loc (st) h := by
  intro p l e s m args below meth c D cA w0 A B n0 ad0 ad H ls locs cells slots C
  obtain ⟨⟨hx, hb, hml, hr, hts, hown, hnm, hlk⟩, hK, hA, hSF, hP, hD, hS, hO, hG, hst, hlo, hL, had, hn0, hc, hs⟩ := id C
  have K := k p l e s m args below meth c D cA w0 A B n0 ad0 ad H ls locs cells slots (CJ_st C (ok_c hR hst))
  exact lv_bipush hx hb hd hv K

theorem J_sipush {n : Int} (hR : R32 n) (hv : (Int16.ofInt n).toInt32 = Int32.ofInt n) (hd : decode y.2.1 pc = .ok (.sipush n, 3)) (k : J G d b y Q (pc + 3) loc (vI n :: st) h) : J G d b y Q pc loc (st) h := by
  intro p l e s m args below meth c D cA w0 A B n0 ad0 ad H ls locs cells slots C
  obtain ⟨⟨hx, hb, hml, hr, hts, hown, hnm, hlk⟩, hK, hA, hSF, hP, hD, hS, hO, hG, hst, hlo, hL, had, hn0, hc, hs⟩ := id C
  have K := k p l e s m args below meth c D cA w0 A B n0 ad0 ad H ls locs cells slots (CJ_st C (ok_c hR hst))
  exact lv_sipush hx hb hd hv K

theorem J_lconst {n : Fin 2} {x : Int} (hR : R64 x) (hv : Int64.ofNat (n : Nat) = Int64.ofInt x) (hd : decode y.2.1 pc = .ok (.lconst n, 1)) (k : J G d b y Q (pc + 1) loc (vL x :: st) h) : J G d b y Q pc loc (st) h := by
  intro p l e s m args below meth c D cA w0 A B n0 ad0 ad H ls locs cells slots C
  obtain ⟨⟨hx, hb, hml, hr, hts, hown, hnm, hlk⟩, hK, hA, hSF, hP, hD, hS, hO, hG, hst, hlo, hL, had, hn0, hc, hs⟩ := id C
  have K := k p l e s m args below meth c D cA w0 A B n0 ad0 ad H ls locs cells slots (CJ_st C (ok_c hR hst))
  exact lv_lconst hx hb hd hv K

theorem J_ldc {i : Nat} {v : Int32} {n : Int} (hR : R32 n) (hv : v = Int32.ofInt n) (hw : Cond.constant y.1.cls i v ∈ jT) (hd : decode y.2.1 pc = .ok (.ldc i, 2)) (k : J G d b y Q (pc + 2) loc (vI n :: st) h) : J G d b y Q pc loc (st) h := by
  intro p l e s m args below meth c D cA w0 A B n0 ad0 ad H ls locs cells slots C
  obtain ⟨⟨hx, hb, hml, hr, hts, hown, hnm, hlk⟩, hK, hA, hSF, hP, hD, hS, hO, hG, hst, hlo, hL, had, hn0, hc, hs⟩ := id C
  have K := k p l e s m args below meth c D cA w0 A B n0 ad0 ad H ls locs cells slots (CJ_st C (ok_c hR hst))
  exact lv_ldc hx hb hown (hts _ hw) hd (hv ▸ K)

theorem J_ldcw {i : Nat} {v : Int32} {n : Int} (hR : R32 n) (hv : v = Int32.ofInt n) (hw : Cond.constant y.1.cls i v ∈ jT) (hd : decode y.2.1 pc = .ok (.ldc_w i, 3)) (k : J G d b y Q (pc + 3) loc (vI n :: st) h) : J G d b y Q pc loc (st) h := by
  intro p l e s m args below meth c D cA w0 A B n0 ad0 ad H ls locs cells slots C
  obtain ⟨⟨hx, hb, hml, hr, hts, hown, hnm, hlk⟩, hK, hA, hSF, hP, hD, hS, hO, hG, hst, hlo, hL, had, hn0, hc, hs⟩ := id C
  have K := k p l e s m args below meth c D cA w0 A B n0 ad0 ad H ls locs cells slots (CJ_st C (ok_c hR hst))
  exact lv_ldcw hx hb hown (hts _ hw) hd (hv ▸ K)

theorem J_ldc2 {i : Nat} {v : Int64} {n : Int} (hR : R64 n) (hv : v = Int64.ofInt n) (hw : Cond.constantLong y.1.cls i v ∈ jT) (hd : decode y.2.1 pc = .ok (.ldc2_w i, 3)) (k : J G d b y Q (pc + 3) loc (vL n :: st) h) : J G d b y Q pc loc (st) h := by
  intro p l e s m args below meth c D cA w0 A B n0 ad0 ad H ls locs cells slots C
  obtain ⟨⟨hx, hb, hml, hr, hts, hown, hnm, hlk⟩, hK, hA, hSF, hP, hD, hS, hO, hG, hst, hlo, hL, had, hn0, hc, hs⟩ := id C
  have K := k p l e s m args below meth c D cA w0 A B n0 ad0 ad H ls locs cells slots (CJ_st C (ok_c hR hst))
  exact lv_ldc2 hx hb hown (hts _ hw) hd (hv ▸ K)

theorem J_null (hd : decode y.2.1 pc = .ok (.aconst_null, 1)) (k : J G d b y Q (pc + 1) loc (vR none :: st) h) : J G d b y Q pc loc (st) h := by
  intro p l e s m args below meth c D cA w0 A B n0 ad0 ad H ls locs cells slots C
  obtain ⟨⟨hx, hb, hml, hr, hts, hown, hnm, hlk⟩, hK, hA, hSF, hP, hD, hS, hO, hG, hst, hlo, hL, had, hn0, hc, hs⟩ := id C
  have K := k p l e s m args below meth c D cA w0 A B n0 ad0 ad H ls locs cells slots (CJ_st C (ok_c (fun k q => by cases q) hst))
  exact lv_null hx hb hd K

theorem J_ldcS (hcl : y.1.cls = RX3) (hd : decode y.2.1 pc = .ok (.ldc 102, 2)) (k : J G d b y Q (pc + 2) loc (vS :: st) h) : J G d b y Q pc loc (st) h := by
  intro p l e s m args below meth c D cA w0 A B n0 ad0 ad H ls locs cells slots C
  obtain ⟨⟨hx, hb, hml, hr, hts, hown, hnm, hlk⟩, hK, hA, hSF, hP, hD, hS, hO, hG, hst, hlo, hL, had, hn0, hc, hs⟩ := id C
  have K := k p l e s m args below meth c D cA w0 A B n0 ad0 ad H ls locs cells slots (CJ_st C (ok_c trivial hst))
  exact va_ldcS hx hb (hcl ▸ hown) hSF.1 hd K

theorem J_iload_n {j : Fin 4} {x : Int} (hl : loc[(j : Nat)]? = some (some (vI x))) (hd : decode y.2.1 pc = .ok (.iload_n j, 1)) (k : J G d b y Q (pc + 1) loc (vI x :: st) h) : J G d b y Q pc loc (st) h := by
  intro p l e s m args below meth c D cA w0 A B n0 ad0 ad H ls locs cells slots C
  obtain ⟨⟨hx, hb, hml, hr, hts, hown, hnm, hlk⟩, hK, hA, hSF, hP, hD, hS, hO, hG, hst, hlo, hL, had, hn0, hc, hs⟩ := id C
  have K := k p l e s m args below meth c D cA w0 A B n0 ad0 ad H ls locs cells slots (CJ_st C (ok_c (ok_loc hlo hl) hst))
  exact lv_iload_n hx hb hd rfl (hL.2.2.2 _ _ hl) K

theorem J_iload {j : Nat} {x : Int} (hl : loc[j]? = some (some (vI x))) (hd : decode y.2.1 pc = .ok (.iload j, 2)) (k : J G d b y Q (pc + 2) loc (vI x :: st) h) : J G d b y Q pc loc (st) h := by
  intro p l e s m args below meth c D cA w0 A B n0 ad0 ad H ls locs cells slots C
  obtain ⟨⟨hx, hb, hml, hr, hts, hown, hnm, hlk⟩, hK, hA, hSF, hP, hD, hS, hO, hG, hst, hlo, hL, had, hn0, hc, hs⟩ := id C
  have K := k p l e s m args below meth c D cA w0 A B n0 ad0 ad H ls locs cells slots (CJ_st C (ok_c (ok_loc hlo hl) hst))
  exact lv_iload hx hb hd (hL.2.2.2 _ _ hl) K

theorem J_lload_n {j : Fin 4} {x : Int} (hl : loc[(j : Nat)]? = some (some (vL x))) (hd : decode y.2.1 pc = .ok (.lload_n j, 1)) (k : J G d b y Q (pc + 1) loc (vL x :: st) h) : J G d b y Q pc loc (st) h := by
  intro p l e s m args below meth c D cA w0 A B n0 ad0 ad H ls locs cells slots C
  obtain ⟨⟨hx, hb, hml, hr, hts, hown, hnm, hlk⟩, hK, hA, hSF, hP, hD, hS, hO, hG, hst, hlo, hL, had, hn0, hc, hs⟩ := id C
  have K := k p l e s m args below meth c D cA w0 A B n0 ad0 ad H ls locs cells slots (CJ_st C (ok_c (ok_loc hlo hl) hst))
  exact lv_lload_n hx hb hd rfl (hL.2.2.2 _ _ hl) K

theorem J_lload {j : Nat} {x : Int} (hl : loc[j]? = some (some (vL x))) (hd : decode y.2.1 pc = .ok (.lload j, 2)) (k : J G d b y Q (pc + 2) loc (vL x :: st) h) : J G d b y Q pc loc (st) h := by
  intro p l e s m args below meth c D cA w0 A B n0 ad0 ad H ls locs cells slots C
  obtain ⟨⟨hx, hb, hml, hr, hts, hown, hnm, hlk⟩, hK, hA, hSF, hP, hD, hS, hO, hG, hst, hlo, hL, had, hn0, hc, hs⟩ := id C
  have K := k p l e s m args below meth c D cA w0 A B n0 ad0 ad H ls locs cells slots (CJ_st C (ok_c (ok_loc hlo hl) hst))
  exact lv_lload hx hb hd (hL.2.2.2 _ _ hl) K

theorem J_aload_n {j : Fin 4} {x : Option Nat} (hl : loc[(j : Nat)]? = some (some (vR x))) (hd : decode y.2.1 pc = .ok (.aload_n j, 1)) (k : J G d b y Q (pc + 1) loc (vR x :: st) h) : J G d b y Q pc loc (st) h := by
  intro p l e s m args below meth c D cA w0 A B n0 ad0 ad H ls locs cells slots C
  obtain ⟨⟨hx, hb, hml, hr, hts, hown, hnm, hlk⟩, hK, hA, hSF, hP, hD, hS, hO, hG, hst, hlo, hL, had, hn0, hc, hs⟩ := id C
  have K := k p l e s m args below meth c D cA w0 A B n0 ad0 ad H ls locs cells slots (CJ_st C (ok_c (ok_loc hlo hl) hst))
  exact (match x, hl, K with
  | none, hl, K => lv_aload_nN hx hb hd rfl (hL.2.2.2 _ _ hl) K
  | some x, hl, K => lv_aload_n hx hb hd rfl (hL.2.2.2 _ _ hl) K)

theorem J_aload {j : Nat} {x : Option Nat} (hl : loc[j]? = some (some (vR x))) (hd : decode y.2.1 pc = .ok (.aload j, 2)) (k : J G d b y Q (pc + 2) loc (vR x :: st) h) : J G d b y Q pc loc (st) h := by
  intro p l e s m args below meth c D cA w0 A B n0 ad0 ad H ls locs cells slots C
  obtain ⟨⟨hx, hb, hml, hr, hts, hown, hnm, hlk⟩, hK, hA, hSF, hP, hD, hS, hO, hG, hst, hlo, hL, had, hn0, hc, hs⟩ := id C
  have K := k p l e s m args below meth c D cA w0 A B n0 ad0 ad H ls locs cells slots (CJ_st C (ok_c (ok_loc hlo hl) hst))
  exact (match x, hl, K with
  | none, hl, K => lv_aloadN hx hb hd (hL.2.2.2 _ _ hl) K
  | some x, hl, K => lv_aload hx hb hd (hL.2.2.2 _ _ hl) K)

theorem J_dup {v : AV} (hv : isL (some v) = false) (hd : decode y.2.1 pc = .ok (.dup, 1)) (k : J G d b y Q (pc + 1) loc (v :: v :: st) h) : J G d b y Q pc loc (v :: st) h := by
  intro p l e s m args below meth c D cA w0 A B n0 ad0 ad H ls locs cells slots C
  obtain ⟨⟨hx, hb, hml, hr, hts, hown, hnm, hlk⟩, hK, hA, hSF, hP, hD, hS, hO, hG, hst, hlo, hL, had, hn0, hc, hs⟩ := id C
  have K := k p l e s m args below meth c D cA w0 A B n0 ad0 ad H ls locs cells slots (CJ_st C (ok_c (ok_h hst) hst))
  exact lv_dup hx hb hd (cat_cv hv) K

theorem J_pop {v : AV} (hv : isL (some v) = false) (hd : decode y.2.1 pc = .ok (.pop, 1)) (k : J G d b y Q (pc + 1) loc (st) h) : J G d b y Q pc loc (v :: st) h := by
  intro p l e s m args below meth c D cA w0 A B n0 ad0 ad H ls locs cells slots C
  obtain ⟨⟨hx, hb, hml, hr, hts, hown, hnm, hlk⟩, hK, hA, hSF, hP, hD, hS, hO, hG, hst, hlo, hL, had, hn0, hc, hs⟩ := id C
  have K := k p l e s m args below meth c D cA w0 A B n0 ad0 ad H ls locs cells slots (CJ_st C (ok_t hst))
  exact lv_pop hx hb hd (cat_cv hv) K

theorem J_dup2 {v w : AV} (hv : isL (some v) = false) (hw : isL (some w) = false) (hd : decode y.2.1 pc = .ok (.dup2, 1)) (k : J G d b y Q (pc + 1) loc (v :: w :: v :: w :: st) h) : J G d b y Q pc loc (v :: w :: st) h := by
  intro p l e s m args below meth c D cA w0 A B n0 ad0 ad H ls locs cells slots C
  obtain ⟨⟨hx, hb, hml, hr, hts, hown, hnm, hlk⟩, hK, hA, hSF, hP, hD, hS, hO, hG, hst, hlo, hL, had, hn0, hc, hs⟩ := id C
  have K := k p l e s m args below meth c D cA w0 A B n0 ad0 ad H ls locs cells slots (CJ_st C (ok_c (ok_h hst) (ok_c (ok_h (ok_t hst)) hst)))
  exact lv_dup2_11 hx hb hd (cat_cv hv) (cat_cv hw) K

theorem J_dup2L {x : Int} (hd : decode y.2.1 pc = .ok (.dup2, 1)) (k : J G d b y Q (pc + 1) loc (vL x :: vL x :: st) h) : J G d b y Q pc loc (vL x :: st) h := by
  intro p l e s m args below meth c D cA w0 A B n0 ad0 ad H ls locs cells slots C
  obtain ⟨⟨hx, hb, hml, hr, hts, hown, hnm, hlk⟩, hK, hA, hSF, hP, hD, hS, hO, hG, hst, hlo, hL, had, hn0, hc, hs⟩ := id C
  have K := k p l e s m args below meth c D cA w0 A B n0 ad0 ad H ls locs cells slots (CJ_st C (ok_c (ok_h hst) hst))
  exact lv_dup2_2 hx hb hd rfl K

theorem J_iadd {x z : Int} (hR : R32 (x + z)) (hd : decode y.2.1 pc = .ok (.iadd, 1)) (k : J G d b y Q (pc + 1) loc (vI (x + z) :: st) h) : J G d b y Q pc loc (vI z :: vI x :: st) h := by
  intro p l e s m args below meth c D cA w0 A B n0 ad0 ad H ls locs cells slots C
  obtain ⟨⟨hx, hb, hml, hr, hts, hown, hnm, hlk⟩, hK, hA, hSF, hP, hD, hS, hO, hG, hst, hlo, hL, had, hn0, hc, hs⟩ := id C
  have K := k p l e s m args below meth c D cA w0 A B n0 ad0 ad H ls locs cells slots (CJ_st C (ok_c hR (ok_t (ok_t hst))))
  exact lv_iadd hx hb hd (by rw [← Int32.ofInt_add]; exact K)

theorem J_isub {x z : Int} (hR : R32 (x - z)) (hd : decode y.2.1 pc = .ok (.isub, 1)) (k : J G d b y Q (pc + 1) loc (vI (x - z) :: st) h) : J G d b y Q pc loc (vI z :: vI x :: st) h := by
  intro p l e s m args below meth c D cA w0 A B n0 ad0 ad H ls locs cells slots C
  obtain ⟨⟨hx, hb, hml, hr, hts, hown, hnm, hlk⟩, hK, hA, hSF, hP, hD, hS, hO, hG, hst, hlo, hL, had, hn0, hc, hs⟩ := id C
  have K := k p l e s m args below meth c D cA w0 A B n0 ad0 ad H ls locs cells slots (CJ_st C (ok_c hR (ok_t (ok_t hst))))
  exact lv_isub hx hb hd (by rw [← Int32.ofInt_sub]; exact K)

theorem J_imul {x z : Int} (hR : R32 (x * z)) (hd : decode y.2.1 pc = .ok (.imul, 1)) (k : J G d b y Q (pc + 1) loc (vI (x * z) :: st) h) : J G d b y Q pc loc (vI z :: vI x :: st) h := by
  intro p l e s m args below meth c D cA w0 A B n0 ad0 ad H ls locs cells slots C
  obtain ⟨⟨hx, hb, hml, hr, hts, hown, hnm, hlk⟩, hK, hA, hSF, hP, hD, hS, hO, hG, hst, hlo, hL, had, hn0, hc, hs⟩ := id C
  have K := k p l e s m args below meth c D cA w0 A B n0 ad0 ad H ls locs cells slots (CJ_st C (ok_c hR (ok_t (ok_t hst))))
  exact lv_imul hx hb hd (by rw [← Int32.ofInt_mul]; exact K)

theorem J_ladd {x z : Int} (hR : R64 (x + z)) (hd : decode y.2.1 pc = .ok (.ladd, 1)) (k : J G d b y Q (pc + 1) loc (vL (x + z) :: st) h) : J G d b y Q pc loc (vL z :: vL x :: st) h := by
  intro p l e s m args below meth c D cA w0 A B n0 ad0 ad H ls locs cells slots C
  obtain ⟨⟨hx, hb, hml, hr, hts, hown, hnm, hlk⟩, hK, hA, hSF, hP, hD, hS, hO, hG, hst, hlo, hL, had, hn0, hc, hs⟩ := id C
  have K := k p l e s m args below meth c D cA w0 A B n0 ad0 ad H ls locs cells slots (CJ_st C (ok_c hR (ok_t (ok_t hst))))
  exact lv_ladd hx hb hd (by rw [← Int64.ofInt_add]; exact K)

theorem J_lsub {x z : Int} (hR : R64 (x - z)) (hd : decode y.2.1 pc = .ok (.lsub, 1)) (k : J G d b y Q (pc + 1) loc (vL (x - z) :: st) h) : J G d b y Q pc loc (vL z :: vL x :: st) h := by
  intro p l e s m args below meth c D cA w0 A B n0 ad0 ad H ls locs cells slots C
  obtain ⟨⟨hx, hb, hml, hr, hts, hown, hnm, hlk⟩, hK, hA, hSF, hP, hD, hS, hO, hG, hst, hlo, hL, had, hn0, hc, hs⟩ := id C
  have K := k p l e s m args below meth c D cA w0 A B n0 ad0 ad H ls locs cells slots (CJ_st C (ok_c hR (ok_t (ok_t hst))))
  exact lv_lsub hx hb hd (by rw [← Int64.ofInt_sub]; exact K)

theorem J_lmul {x z : Int} (hR : R64 (x * z)) (hd : decode y.2.1 pc = .ok (.lmul, 1)) (k : J G d b y Q (pc + 1) loc (vL (x * z) :: st) h) : J G d b y Q pc loc (vL z :: vL x :: st) h := by
  intro p l e s m args below meth c D cA w0 A B n0 ad0 ad H ls locs cells slots C
  obtain ⟨⟨hx, hb, hml, hr, hts, hown, hnm, hlk⟩, hK, hA, hSF, hP, hD, hS, hO, hG, hst, hlo, hL, had, hn0, hc, hs⟩ := id C
  have K := k p l e s m args below meth c D cA w0 A B n0 ad0 ad H ls locs cells slots (CJ_st C (ok_c hR (ok_t (ok_t hst))))
  exact lv_lmul hx hb hd (by rw [← Int64.ofInt_mul]; exact K)

theorem J_ineg {x : Int} (hR : R32 (-x)) (hd : decode y.2.1 pc = .ok (.ineg, 1)) (k : J G d b y Q (pc + 1) loc (vI (-x) :: st) h) : J G d b y Q pc loc (vI x :: st) h := by
  intro p l e s m args below meth c D cA w0 A B n0 ad0 ad H ls locs cells slots C
  obtain ⟨⟨hx, hb, hml, hr, hts, hown, hnm, hlk⟩, hK, hA, hSF, hP, hD, hS, hO, hG, hst, hlo, hL, had, hn0, hc, hs⟩ := id C
  have K := k p l e s m args below meth c D cA w0 A B n0 ad0 ad H ls locs cells slots (CJ_st C (ok_c hR (ok_t hst)))
  exact lv_ineg hx hb hd (by rw [← Int32.ofInt_neg]; exact K)

theorem J_idiv {x z : Int} (hz : z ≠ 0) (hR : R32 (x.tdiv z)) (hd : decode y.2.1 pc = .ok (.idiv, 1)) (k : J G d b y Q (pc + 1) loc (vI (x.tdiv z) :: st) h) : J G d b y Q pc loc (vI z :: vI x :: st) h := by
  intro p l e s m args below meth c D cA w0 A B n0 ad0 ad H ls locs cells slots C
  obtain ⟨⟨hx, hb, hml, hr, hts, hown, hnm, hlk⟩, hK, hA, hSF, hP, hD, hS, hO, hG, hst, hlo, hL, had, hn0, hc, hs⟩ := id C
  have hX : R32 x := ok_h (ok_t hst)
  have hZ : R32 z := ok_h hst
  have K := k p l e s m args below meth c D cA w0 A B n0 ad0 ad H ls locs cells slots (CJ_st C (ok_c hR (ok_t (ok_t hst))))
  exact lv_idiv hx hb hd (fun q => hz ((i32_eq hZ (by decide)).mp (q.trans (by decide)))) (by rw [← Int32.ofInt_tdiv (by rw [i32_min]; omega) (by rw [i32_max]; omega) (by rw [i32_min]; omega) (by rw [i32_max]; omega)]; exact K)

theorem J_irem {x z : Int} (hz : z ≠ 0) (hR : R32 (x.tmod z)) (hd : decode y.2.1 pc = .ok (.irem, 1)) (k : J G d b y Q (pc + 1) loc (vI (x.tmod z) :: st) h) : J G d b y Q pc loc (vI z :: vI x :: st) h := by
  intro p l e s m args below meth c D cA w0 A B n0 ad0 ad H ls locs cells slots C
  obtain ⟨⟨hx, hb, hml, hr, hts, hown, hnm, hlk⟩, hK, hA, hSF, hP, hD, hS, hO, hG, hst, hlo, hL, had, hn0, hc, hs⟩ := id C
  have hX : R32 x := ok_h (ok_t hst)
  have hZ : R32 z := ok_h hst
  have K := k p l e s m args below meth c D cA w0 A B n0 ad0 ad H ls locs cells slots (CJ_st C (ok_c hR (ok_t (ok_t hst))))
  exact lv_irem hx hb hd (fun q => hz ((i32_eq hZ (by decide)).mp (q.trans (by decide)))) (by rw [← Int32.ofInt_tdiv (by rw [i32_min]; omega) (by rw [i32_max]; omega) (by rw [i32_min]; omega) (by rw [i32_max]; omega), ← Int32.ofInt_mul, ← Int32.ofInt_sub, show x - x.tdiv z * z = x.tmod z by rw [Int.tmod_def, Int.mul_comm]]; exact K)

theorem J_ldiv {x z : Int} (hz : z ≠ 0) (hR : R64 (x.tdiv z)) (hd : decode y.2.1 pc = .ok (.ldiv, 1)) (k : J G d b y Q (pc + 1) loc (vL (x.tdiv z) :: st) h) : J G d b y Q pc loc (vL z :: vL x :: st) h := by
  intro p l e s m args below meth c D cA w0 A B n0 ad0 ad H ls locs cells slots C
  obtain ⟨⟨hx, hb, hml, hr, hts, hown, hnm, hlk⟩, hK, hA, hSF, hP, hD, hS, hO, hG, hst, hlo, hL, had, hn0, hc, hs⟩ := id C
  have hX : R64 x := ok_h (ok_t hst)
  have hZ : R64 z := ok_h hst
  have K := k p l e s m args below meth c D cA w0 A B n0 ad0 ad H ls locs cells slots (CJ_st C (ok_c hR (ok_t (ok_t hst))))
  exact lv_ldiv hx hb hd (fun q => hz ((i64_eq hZ (by decide)).mp (q.trans (by decide)))) (by rw [← Int64.ofInt_tdiv (by rw [i64_min]; omega) (by rw [i64_max]; omega) (by rw [i64_min]; omega) (by rw [i64_max]; omega)]; exact K)

theorem J_lrem {x z : Int} (hz : z ≠ 0) (hR : R64 (x.tmod z)) (hd : decode y.2.1 pc = .ok (.lrem, 1)) (k : J G d b y Q (pc + 1) loc (vL (x.tmod z) :: st) h) : J G d b y Q pc loc (vL z :: vL x :: st) h := by
  intro p l e s m args below meth c D cA w0 A B n0 ad0 ad H ls locs cells slots C
  obtain ⟨⟨hx, hb, hml, hr, hts, hown, hnm, hlk⟩, hK, hA, hSF, hP, hD, hS, hO, hG, hst, hlo, hL, had, hn0, hc, hs⟩ := id C
  have hX : R64 x := ok_h (ok_t hst)
  have hZ : R64 z := ok_h hst
  have K := k p l e s m args below meth c D cA w0 A B n0 ad0 ad H ls locs cells slots (CJ_st C (ok_c hR (ok_t (ok_t hst))))
  exact lv_lrem hx hb hd (fun q => hz ((i64_eq hZ (by decide)).mp (q.trans (by decide)))) (by rw [← Int64.ofInt_tdiv (by rw [i64_min]; omega) (by rw [i64_max]; omega) (by rw [i64_min]; omega) (by rw [i64_max]; omega), ← Int64.ofInt_mul, ← Int64.ofInt_sub, show x - x.tdiv z * z = x.tmod z by rw [Int.tmod_def, Int.mul_comm]]; exact K)

theorem cv_map_I {w0 : WT} {ad : Nat → Nat} {x : Int} {st : List AV} : (vI x :: st).map (cv w0 ad) = .int (Int32.ofInt x) :: st.map (cv w0 ad) := rfl
theorem zcmp_R (x z : Int) : R32 (zcmp x z) := by unfold zcmp; split <;> (try split) <;> decide
theorem zcmp_ok {x z : Int} (hX : R64 x) (hZ : R64 z) : lg_cmp (Int64.ofInt x) (Int64.ofInt z) = Int32.ofInt (zcmp x z) := by
  unfold lg_cmp zcmp
  simp only [i64_lt hX hZ, i64_lt hZ hX, i64_eq hX hZ]
  repeat' split
  all_goals first | rfl | decide | omega

theorem J_iand {x z : Int} (hd : decode y.2.1 pc = .ok (.iand, 1)) (k : J G d b y Q (pc + 1) loc (vI (zand x z) :: st) h) : J G d b y Q pc loc (vI z :: vI x :: st) h := by
  intro p l e s m args below meth c D cA w0 A B n0 ad0 ad H ls locs cells slots C
  obtain ⟨⟨hx, hb, hml, hr, hts, hown, hnm, hlk⟩, hK, hA, hSF, hP, hD, hS, hO, hG, hst, hlo, hL, had, hn0, hc, hs⟩ := id C
  have K := k p l e s m args below meth c D cA w0 A B n0 ad0 ad H ls locs cells slots (CJ_st C (ok_c (r32_of _) (ok_t (ok_t hst))))
  exact lv_iand hx hb hd (by rw [cv_map_I, zand, Int32.ofInt_toInt] at K; exact K)

theorem J_ior {x z : Int} (hd : decode y.2.1 pc = .ok (.ior, 1)) (k : J G d b y Q (pc + 1) loc (vI (zor x z) :: st) h) : J G d b y Q pc loc (vI z :: vI x :: st) h := by
  intro p l e s m args below meth c D cA w0 A B n0 ad0 ad H ls locs cells slots C
  obtain ⟨⟨hx, hb, hml, hr, hts, hown, hnm, hlk⟩, hK, hA, hSF, hP, hD, hS, hO, hG, hst, hlo, hL, had, hn0, hc, hs⟩ := id C
  have K := k p l e s m args below meth c D cA w0 A B n0 ad0 ad H ls locs cells slots (CJ_st C (ok_c (r32_of _) (ok_t (ok_t hst))))
  exact lv_ior hx hb hd (by rw [cv_map_I, zor, Int32.ofInt_toInt] at K; exact K)

theorem J_ixor {x z : Int} (hd : decode y.2.1 pc = .ok (.ixor, 1)) (k : J G d b y Q (pc + 1) loc (vI (zxor x z) :: st) h) : J G d b y Q pc loc (vI z :: vI x :: st) h := by
  intro p l e s m args below meth c D cA w0 A B n0 ad0 ad H ls locs cells slots C
  obtain ⟨⟨hx, hb, hml, hr, hts, hown, hnm, hlk⟩, hK, hA, hSF, hP, hD, hS, hO, hG, hst, hlo, hL, had, hn0, hc, hs⟩ := id C
  have K := k p l e s m args below meth c D cA w0 A B n0 ad0 ad H ls locs cells slots (CJ_st C (ok_c (r32_of _) (ok_t (ok_t hst))))
  exact lv_ixor hx hb hd (by rw [cv_map_I, zxor, Int32.ofInt_toInt] at K; exact K)

theorem J_ishl {x z : Int} (hd : decode y.2.1 pc = .ok (.ishl, 1)) (k : J G d b y Q (pc + 1) loc (vI (zshl x z) :: st) h) : J G d b y Q pc loc (vI z :: vI x :: st) h := by
  intro p l e s m args below meth c D cA w0 A B n0 ad0 ad H ls locs cells slots C
  obtain ⟨⟨hx, hb, hml, hr, hts, hown, hnm, hlk⟩, hK, hA, hSF, hP, hD, hS, hO, hG, hst, hlo, hL, had, hn0, hc, hs⟩ := id C
  have K := k p l e s m args below meth c D cA w0 A B n0 ad0 ad H ls locs cells slots (CJ_st C (ok_c (r32_of _) (ok_t (ok_t hst))))
  exact lv_ishl hx hb hd (by rw [cv_map_I, zshl, Int32.ofInt_toInt] at K; exact K)

theorem J_ishr {x z : Int} (hd : decode y.2.1 pc = .ok (.ishr, 1)) (k : J G d b y Q (pc + 1) loc (vI (zshr x z) :: st) h) : J G d b y Q pc loc (vI z :: vI x :: st) h := by
  intro p l e s m args below meth c D cA w0 A B n0 ad0 ad H ls locs cells slots C
  obtain ⟨⟨hx, hb, hml, hr, hts, hown, hnm, hlk⟩, hK, hA, hSF, hP, hD, hS, hO, hG, hst, hlo, hL, had, hn0, hc, hs⟩ := id C
  have K := k p l e s m args below meth c D cA w0 A B n0 ad0 ad H ls locs cells slots (CJ_st C (ok_c (r32_of _) (ok_t (ok_t hst))))
  exact lv_ishr hx hb hd (by rw [cv_map_I, zshr, Int32.ofInt_toInt] at K; exact K)

theorem J_iushr {x z : Int} (hd : decode y.2.1 pc = .ok (.iushr, 1)) (k : J G d b y Q (pc + 1) loc (vI (zushr x z) :: st) h) : J G d b y Q pc loc (vI z :: vI x :: st) h := by
  intro p l e s m args below meth c D cA w0 A B n0 ad0 ad H ls locs cells slots C
  obtain ⟨⟨hx, hb, hml, hr, hts, hown, hnm, hlk⟩, hK, hA, hSF, hP, hD, hS, hO, hG, hst, hlo, hL, had, hn0, hc, hs⟩ := id C
  have K := k p l e s m args below meth c D cA w0 A B n0 ad0 ad H ls locs cells slots (CJ_st C (ok_c (r32_of _) (ok_t (ok_t hst))))
  exact lv_iushr hx hb hd rfl (by rw [cv_map_I, zushr, Int32.ofInt_toInt] at K; exact K)

theorem J_l2i {x : Int} (hd : decode y.2.1 pc = .ok (.l2i, 1)) (k : J G d b y Q (pc + 1) loc (vI (zl2i x) :: st) h) : J G d b y Q pc loc (vL x :: st) h := by
  intro p l e s m args below meth c D cA w0 A B n0 ad0 ad H ls locs cells slots C
  obtain ⟨⟨hx, hb, hml, hr, hts, hown, hnm, hlk⟩, hK, hA, hSF, hP, hD, hS, hO, hG, hst, hlo, hL, had, hn0, hc, hs⟩ := id C
  have K := k p l e s m args below meth c D cA w0 A B n0 ad0 ad H ls locs cells slots (CJ_st C (ok_c (r32_of _) (ok_t hst)))
  exact lv_l2i hx hb hd rfl (by rw [cv_map_I, zl2i, Int32.ofInt_toInt] at K; exact K)

theorem J_i2l {x : Int} (hd : decode y.2.1 pc = .ok (.i2l, 1)) (k : J G d b y Q (pc + 1) loc (vL x :: st) h) : J G d b y Q pc loc (vI x :: st) h := by
  intro p l e s m args below meth c D cA w0 A B n0 ad0 ad H ls locs cells slots C
  obtain ⟨⟨hx, hb, hml, hr, hts, hown, hnm, hlk⟩, hK, hA, hSF, hP, hD, hS, hO, hG, hst, hlo, hL, had, hn0, hc, hs⟩ := id C
  have hX : R32 x := ok_h hst
  have K := k p l e s m args below meth c D cA w0 A B n0 ad0 ad H ls locs cells slots (CJ_st C (ok_c (show R64 x by omega) (ok_t hst)))
  exact lv_i2l hx hb hd (by rw [← Int64.toInt_inj, Int32.toInt_toInt64, z32 hX, z64 (by omega)]) K

theorem J_lcmp {x z : Int} (hd : decode y.2.1 pc = .ok (.lcmp, 1)) (k : J G d b y Q (pc + 1) loc (vI (zcmp x z) :: st) h) : J G d b y Q pc loc (vL z :: vL x :: st) h := by
  intro p l e s m args below meth c D cA w0 A B n0 ad0 ad H ls locs cells slots C
  obtain ⟨⟨hx, hb, hml, hr, hts, hown, hnm, hlk⟩, hK, hA, hSF, hP, hD, hS, hO, hG, hst, hlo, hL, had, hn0, hc, hs⟩ := id C
  have hX : R64 x := ok_h (ok_t hst)
  have hZ : R64 z := ok_h hst
  have K := k p l e s m args below meth c D cA w0 A B n0 ad0 ad H ls locs cells slots (CJ_st C (ok_c (zcmp_R x z) (ok_t (ok_t hst))))
  exact W.lcmp hx hb hd (by rw [zcmp_ok hX hZ]; exact K)

theorem J_istore_n {j : Fin 4} {x : Int} (hj : (j : Nat) < y.2.2.1) (hl : ls1 loc (j : Nat) (vI x) = loc') (hd : decode y.2.1 pc = .ok (.istore_n j, 1)) (k : J G d b y Q (pc + 1) loc' st h) : J G d b y Q pc loc (vI x :: st) h := by
  intro p l e s m args below meth c D cA w0 A B n0 ad0 ad H ls locs cells slots C
  obtain ⟨⟨hx, hb, hml, hr, hts, hown, hnm, hlk⟩, hK, hA, hSF, hP, hD, hS, hO, hG, hst, hlo, hL, had, hn0, hc, hs⟩ := id C
  subst hl
  have K : ∀ ls' : Array Slot, LocR w0 ad ls' y.2.2.1 (ls1 loc (j : Nat) (vI x)) → _ := fun ls' z => k p l e s m args below meth c D cA w0 A B n0 ad0 ad H ls' locs cells slots (CJ_loc C (ok_t hst) (fun v q => (ls_mem q).elim (fun e => by rw [e]; exact ok_h hst) (hlo v)) z)
  exact lv_istore_n hx hb hd rfl hL.has hj rfl (fun ls' z => K ls' (LocR.set1 hL.2.2.1 z))

theorem J_istore {j : Nat} {x : Int} (hj : (j : Nat) < y.2.2.1) (hl : ls1 loc (j : Nat) (vI x) = loc') (hd : decode y.2.1 pc = .ok (.istore j, 2)) (k : J G d b y Q (pc + 2) loc' st h) : J G d b y Q pc loc (vI x :: st) h := by
  intro p l e s m args below meth c D cA w0 A B n0 ad0 ad H ls locs cells slots C
  obtain ⟨⟨hx, hb, hml, hr, hts, hown, hnm, hlk⟩, hK, hA, hSF, hP, hD, hS, hO, hG, hst, hlo, hL, had, hn0, hc, hs⟩ := id C
  subst hl
  have K : ∀ ls' : Array Slot, LocR w0 ad ls' y.2.2.1 (ls1 loc (j : Nat) (vI x)) → _ := fun ls' z => k p l e s m args below meth c D cA w0 A B n0 ad0 ad H ls' locs cells slots (CJ_loc C (ok_t hst) (fun v q => (ls_mem q).elim (fun e => by rw [e]; exact ok_h hst) (hlo v)) z)
  exact lv_istore hx hb hd hL.has hj rfl (fun ls' z => K ls' (LocR.set1 hL.2.2.1 z))

theorem J_lstore_n {j : Fin 4} {x : Int} (hj : (j : Nat) + 1 < y.2.2.1) (hl : ls2 loc (j : Nat) (vL x) = loc') (hd : decode y.2.1 pc = .ok (.lstore_n j, 1)) (k : J G d b y Q (pc + 1) loc' st h) : J G d b y Q pc loc (vL x :: st) h := by
  intro p l e s m args below meth c D cA w0 A B n0 ad0 ad H ls locs cells slots C
  obtain ⟨⟨hx, hb, hml, hr, hts, hown, hnm, hlk⟩, hK, hA, hSF, hP, hD, hS, hO, hG, hst, hlo, hL, had, hn0, hc, hs⟩ := id C
  subst hl
  have K : ∀ ls' : Array Slot, LocR w0 ad ls' y.2.2.1 (ls2 loc (j : Nat) (vL x)) → _ := fun ls' z => k p l e s m args below meth c D cA w0 A B n0 ad0 ad H ls' locs cells slots (CJ_loc C (ok_t hst) (fun v q => (ls2_mem q).elim (fun e => by rw [e]; exact ok_h hst) (hlo v)) z)
  exact lv_lstore_n hx hb hd rfl hL.has hj rfl (fun ls' z => K ls' (LocR.set2 hL.2.2.1 z))

theorem J_lstore {j : Nat} {x : Int} (hj : (j : Nat) + 1 < y.2.2.1) (hl : ls2 loc (j : Nat) (vL x) = loc') (hd : decode y.2.1 pc = .ok (.lstore j, 2)) (k : J G d b y Q (pc + 2) loc' st h) : J G d b y Q pc loc (vL x :: st) h := by
  intro p l e s m args below meth c D cA w0 A B n0 ad0 ad H ls locs cells slots C
  obtain ⟨⟨hx, hb, hml, hr, hts, hown, hnm, hlk⟩, hK, hA, hSF, hP, hD, hS, hO, hG, hst, hlo, hL, had, hn0, hc, hs⟩ := id C
  subst hl
  have K : ∀ ls' : Array Slot, LocR w0 ad ls' y.2.2.1 (ls2 loc (j : Nat) (vL x)) → _ := fun ls' z => k p l e s m args below meth c D cA w0 A B n0 ad0 ad H ls' locs cells slots (CJ_loc C (ok_t hst) (fun v q => (ls2_mem q).elim (fun e => by rw [e]; exact ok_h hst) (hlo v)) z)
  exact lv_lstore hx hb hd hL.has hj rfl (fun ls' z => K ls' (LocR.set2 hL.2.2.1 z))

theorem J_astore_n {j : Fin 4} {x : Option Nat} (hj : (j : Nat) < y.2.2.1) (hl : ls1 loc (j : Nat) (vR x) = loc') (hd : decode y.2.1 pc = .ok (.astore_n j, 1)) (k : J G d b y Q (pc + 1) loc' st h) : J G d b y Q pc loc (vR x :: st) h := by
  intro p l e s m args below meth c D cA w0 A B n0 ad0 ad H ls locs cells slots C
  obtain ⟨⟨hx, hb, hml, hr, hts, hown, hnm, hlk⟩, hK, hA, hSF, hP, hD, hS, hO, hG, hst, hlo, hL, had, hn0, hc, hs⟩ := id C
  subst hl
  have K : ∀ ls' : Array Slot, LocR w0 ad ls' y.2.2.1 (ls1 loc (j : Nat) (vR x)) → _ := fun ls' z => k p l e s m args below meth c D cA w0 A B n0 ad0 ad H ls' locs cells slots (CJ_loc C (ok_t hst) (fun v q => (ls_mem q).elim (fun e => by rw [e]; exact ok_h hst) (hlo v)) z)
  cases x with
  | none => exact lv_astore_nN hx hb hd rfl hL.has hj rfl (fun ls' z => K ls' (LocR.set1 hL.2.2.1 z))
  | some x => exact lv_astore_n hx hb hd rfl hL.has hj rfl (fun ls' z => K ls' (LocR.set1 hL.2.2.1 z))

theorem J_astore {j : Nat} {x : Option Nat} (hj : (j : Nat) < y.2.2.1) (hl : ls1 loc (j : Nat) (vR x) = loc') (hd : decode y.2.1 pc = .ok (.astore j, 2)) (k : J G d b y Q (pc + 2) loc' st h) : J G d b y Q pc loc (vR x :: st) h := by
  intro p l e s m args below meth c D cA w0 A B n0 ad0 ad H ls locs cells slots C
  obtain ⟨⟨hx, hb, hml, hr, hts, hown, hnm, hlk⟩, hK, hA, hSF, hP, hD, hS, hO, hG, hst, hlo, hL, had, hn0, hc, hs⟩ := id C
  subst hl
  have K : ∀ ls' : Array Slot, LocR w0 ad ls' y.2.2.1 (ls1 loc (j : Nat) (vR x)) → _ := fun ls' z => k p l e s m args below meth c D cA w0 A B n0 ad0 ad H ls' locs cells slots (CJ_loc C (ok_t hst) (fun v q => (ls_mem q).elim (fun e => by rw [e]; exact ok_h hst) (hlo v)) z)
  cases x with
  | none => exact lv_astoreN hx hb hd hL.has hj rfl (fun ls' z => K ls' (LocR.set1 hL.2.2.1 z))
  | some x => exact lv_astore hx hb hd hL.has hj rfl (fun ls' z => K ls' (LocR.set1 hL.2.2.1 z))

theorem J_iinc {j : Nat} {n x : Int} (hj : j < y.2.2.1) (hg : loc[j]? = some (some (vI x))) (hR : R32 (x + n)) (hl : ls1 loc j (vI (x + n)) = loc') (hd : decode y.2.1 pc = .ok (.iinc j n, 3)) (k : J G d b y Q (pc + 3) loc' st h) : J G d b y Q pc loc st h := by
  intro p l e s m args below meth c D cA w0 A B n0 ad0 ad H ls locs cells slots C
  obtain ⟨⟨hx, hb, hml, hr, hts, hown, hnm, hlk⟩, hK, hA, hSF, hP, hD, hS, hO, hG, hst, hlo, hL, had, hn0, hc, hs⟩ := id C
  subst hl
  have hm : (j, Value.int (Int32.ofInt x)) ∈ locl w0 ad loc := locl_mem.mpr ⟨vI x, hg, rfl⟩
  obtain ⟨k0, hk0⟩ := List.getElem?_of_mem hm
  exact lv_iinc hx hb hd hL.has hk0 (Int32.ofInt_add x n).symm hj rfl (fun ls' z => k p l e s m args below meth c D cA w0 A B n0 ad0 ad H ls' locs cells slots (CJ_loc C hst (fun v q => (ls_mem q).elim (fun e => by rw [e]; exact hR) (hlo v)) (LocR.set1 hL.2.2.1 z)))

theorem J_icmp_eq {x z : Int} {off : Int} {tgt : Nat} (hd : decode y.2.1 pc = .ok (.if_icmp .eq off, 3)) (ht : (pc : Int) + off = (tgt : Int)) (kt : x = z → J G d b y Q tgt loc st h) (kf : ¬ (x = z) → J G d b y Q (pc + 3) loc st h) : J G d b y Q pc loc (vI z :: vI x :: st) h := by
  intro p l e s m args below meth c D cA w0 A B n0 ad0 ad H ls locs cells slots C
  obtain ⟨⟨hx, hb, hml, hr, hts, hown, hnm, hlk⟩, hK, hA, hSF, hP, hD, hS, hO, hG, hst, hlo, hL, had, hn0, hc, hs⟩ := id C
  have hX : R32 x := ok_h (ok_t hst)
  have hZ : R32 z := ok_h hst
  have K := CJ_st C (ok_t (ok_t hst))
  exact lv_icmp_eq hx hb hd ht (fun q => kt ((i32_eq hX hZ).mp q) p l e s m args below meth c D cA w0 A B n0 ad0 ad H ls locs cells slots K) (fun q => kf (fun z => q ((i32_eq hX hZ).mpr z)) p l e s m args below meth c D cA w0 A B n0 ad0 ad H ls locs cells slots K)

theorem J_if_eq {x : Int} {off : Int} {tgt : Nat} (hd : decode y.2.1 pc = .ok (.ifCond .eq off, 3)) (ht : (pc : Int) + off = (tgt : Int)) (kt : x = 0 → J G d b y Q tgt loc st h) (kf : ¬ (x = 0) → J G d b y Q (pc + 3) loc st h) : J G d b y Q pc loc (vI x :: st) h := by
  intro p l e s m args below meth c D cA w0 A B n0 ad0 ad H ls locs cells slots C
  obtain ⟨⟨hx, hb, hml, hr, hts, hown, hnm, hlk⟩, hK, hA, hSF, hP, hD, hS, hO, hG, hst, hlo, hL, had, hn0, hc, hs⟩ := id C
  have hX : R32 x := ok_h hst
  have K := CJ_st C (ok_t hst)
  exact lv_if_eq hx hb hd ht (fun q => kt ((i32_eq hX r32_0).mp q) p l e s m args below meth c D cA w0 A B n0 ad0 ad H ls locs cells slots K) (fun q => kf (fun z => q ((i32_eq hX r32_0).mpr z)) p l e s m args below meth c D cA w0 A B n0 ad0 ad H ls locs cells slots K)

theorem J_icmp_ne {x z : Int} {off : Int} {tgt : Nat} (hd : decode y.2.1 pc = .ok (.if_icmp .ne off, 3)) (ht : (pc : Int) + off = (tgt : Int)) (kt : ¬ (x = z) → J G d b y Q tgt loc st h) (kf : x = z → J G d b y Q (pc + 3) loc st h) : J G d b y Q pc loc (vI z :: vI x :: st) h := by
  intro p l e s m args below meth c D cA w0 A B n0 ad0 ad H ls locs cells slots C
  obtain ⟨⟨hx, hb, hml, hr, hts, hown, hnm, hlk⟩, hK, hA, hSF, hP, hD, hS, hO, hG, hst, hlo, hL, had, hn0, hc, hs⟩ := id C
  have hX : R32 x := ok_h (ok_t hst)
  have hZ : R32 z := ok_h hst
  have K := CJ_st C (ok_t (ok_t hst))
  exact lv_icmp_ne hx hb hd ht (fun q => kt (fun z => q ((i32_eq hX hZ).mpr z)) p l e s m args below meth c D cA w0 A B n0 ad0 ad H ls locs cells slots K) (fun q => kf ((i32_eq hX hZ).mp q) p l e s m args below meth c D cA w0 A B n0 ad0 ad H ls locs cells slots K)

theorem J_if_ne {x : Int} {off : Int} {tgt : Nat} (hd : decode y.2.1 pc = .ok (.ifCond .ne off, 3)) (ht : (pc : Int) + off = (tgt : Int)) (kt : ¬ (x = 0) → J G d b y Q tgt loc st h) (kf : x = 0 → J G d b y Q (pc + 3) loc st h) : J G d b y Q pc loc (vI x :: st) h := by
  intro p l e s m args below meth c D cA w0 A B n0 ad0 ad H ls locs cells slots C
  obtain ⟨⟨hx, hb, hml, hr, hts, hown, hnm, hlk⟩, hK, hA, hSF, hP, hD, hS, hO, hG, hst, hlo, hL, had, hn0, hc, hs⟩ := id C
  have hX : R32 x := ok_h hst
  have K := CJ_st C (ok_t hst)
  exact lv_if_ne hx hb hd ht (fun q => kt (fun z => q ((i32_eq hX r32_0).mpr z)) p l e s m args below meth c D cA w0 A B n0 ad0 ad H ls locs cells slots K) (fun q => kf ((i32_eq hX r32_0).mp q) p l e s m args below meth c D cA w0 A B n0 ad0 ad H ls locs cells slots K)

theorem J_icmp_lt {x z : Int} {off : Int} {tgt : Nat} (hd : decode y.2.1 pc = .ok (.if_icmp .lt off, 3)) (ht : (pc : Int) + off = (tgt : Int)) (kt : x < z → J G d b y Q tgt loc st h) (kf : ¬ (x < z) → J G d b y Q (pc + 3) loc st h) : J G d b y Q pc loc (vI z :: vI x :: st) h := by
  intro p l e s m args below meth c D cA w0 A B n0 ad0 ad H ls locs cells slots C
  obtain ⟨⟨hx, hb, hml, hr, hts, hown, hnm, hlk⟩, hK, hA, hSF, hP, hD, hS, hO, hG, hst, hlo, hL, had, hn0, hc, hs⟩ := id C
  have hX : R32 x := ok_h (ok_t hst)
  have hZ : R32 z := ok_h hst
  have K := CJ_st C (ok_t (ok_t hst))
  exact lv_icmp_lt hx hb hd ht (fun q => kt ((i32_lt hX hZ).mp q) p l e s m args below meth c D cA w0 A B n0 ad0 ad H ls locs cells slots K) (fun q => kf (fun z => q ((i32_lt hX hZ).mpr z)) p l e s m args below meth c D cA w0 A B n0 ad0 ad H ls locs cells slots K)

theorem J_if_lt {x : Int} {off : Int} {tgt : Nat} (hd : decode y.2.1 pc = .ok (.ifCond .lt off, 3)) (ht : (pc : Int) + off = (tgt : Int)) (kt : x < 0 → J G d b y Q tgt loc st h) (kf : ¬ (x < 0) → J G d b y Q (pc + 3) loc st h) : J G d b y Q pc loc (vI x :: st) h := by
  intro p l e s m args below meth c D cA w0 A B n0 ad0 ad H ls locs cells slots C
  obtain ⟨⟨hx, hb, hml, hr, hts, hown, hnm, hlk⟩, hK, hA, hSF, hP, hD, hS, hO, hG, hst, hlo, hL, had, hn0, hc, hs⟩ := id C
  have hX : R32 x := ok_h hst
  have K := CJ_st C (ok_t hst)
  exact lv_if_lt hx hb hd ht (fun q => kt ((i32_lt hX r32_0).mp q) p l e s m args below meth c D cA w0 A B n0 ad0 ad H ls locs cells slots K) (fun q => kf (fun z => q ((i32_lt hX r32_0).mpr z)) p l e s m args below meth c D cA w0 A B n0 ad0 ad H ls locs cells slots K)

theorem J_icmp_ge {x z : Int} {off : Int} {tgt : Nat} (hd : decode y.2.1 pc = .ok (.if_icmp .ge off, 3)) (ht : (pc : Int) + off = (tgt : Int)) (kt : z ≤ x → J G d b y Q tgt loc st h) (kf : ¬ (z ≤ x) → J G d b y Q (pc + 3) loc st h) : J G d b y Q pc loc (vI z :: vI x :: st) h := by
  intro p l e s m args below meth c D cA w0 A B n0 ad0 ad H ls locs cells slots C
  obtain ⟨⟨hx, hb, hml, hr, hts, hown, hnm, hlk⟩, hK, hA, hSF, hP, hD, hS, hO, hG, hst, hlo, hL, had, hn0, hc, hs⟩ := id C
  have hX : R32 x := ok_h (ok_t hst)
  have hZ : R32 z := ok_h hst
  have K := CJ_st C (ok_t (ok_t hst))
  exact lv_icmp_ge hx hb hd ht (fun q => kt ((i32_le hZ hX).mp q) p l e s m args below meth c D cA w0 A B n0 ad0 ad H ls locs cells slots K) (fun q => kf (fun z => q ((i32_le hZ hX).mpr z)) p l e s m args below meth c D cA w0 A B n0 ad0 ad H ls locs cells slots K)

theorem J_if_ge {x : Int} {off : Int} {tgt : Nat} (hd : decode y.2.1 pc = .ok (.ifCond .ge off, 3)) (ht : (pc : Int) + off = (tgt : Int)) (kt : 0 ≤ x → J G d b y Q tgt loc st h) (kf : ¬ (0 ≤ x) → J G d b y Q (pc + 3) loc st h) : J G d b y Q pc loc (vI x :: st) h := by
  intro p l e s m args below meth c D cA w0 A B n0 ad0 ad H ls locs cells slots C
  obtain ⟨⟨hx, hb, hml, hr, hts, hown, hnm, hlk⟩, hK, hA, hSF, hP, hD, hS, hO, hG, hst, hlo, hL, had, hn0, hc, hs⟩ := id C
  have hX : R32 x := ok_h hst
  have K := CJ_st C (ok_t hst)
  exact lv_if_ge hx hb hd ht (fun q => kt ((i32_le r32_0 hX).mp q) p l e s m args below meth c D cA w0 A B n0 ad0 ad H ls locs cells slots K) (fun q => kf (fun z => q ((i32_le r32_0 hX).mpr z)) p l e s m args below meth c D cA w0 A B n0 ad0 ad H ls locs cells slots K)

theorem J_icmp_gt {x z : Int} {off : Int} {tgt : Nat} (hd : decode y.2.1 pc = .ok (.if_icmp .gt off, 3)) (ht : (pc : Int) + off = (tgt : Int)) (kt : z < x → J G d b y Q tgt loc st h) (kf : ¬ (z < x) → J G d b y Q (pc + 3) loc st h) : J G d b y Q pc loc (vI z :: vI x :: st) h := by
  intro p l e s m args below meth c D cA w0 A B n0 ad0 ad H ls locs cells slots C
  obtain ⟨⟨hx, hb, hml, hr, hts, hown, hnm, hlk⟩, hK, hA, hSF, hP, hD, hS, hO, hG, hst, hlo, hL, had, hn0, hc, hs⟩ := id C
  have hX : R32 x := ok_h (ok_t hst)
  have hZ : R32 z := ok_h hst
  have K := CJ_st C (ok_t (ok_t hst))
  exact lv_icmp_gt hx hb hd ht (fun q => kt ((i32_lt hZ hX).mp q) p l e s m args below meth c D cA w0 A B n0 ad0 ad H ls locs cells slots K) (fun q => kf (fun z => q ((i32_lt hZ hX).mpr z)) p l e s m args below meth c D cA w0 A B n0 ad0 ad H ls locs cells slots K)

theorem J_if_gt {x : Int} {off : Int} {tgt : Nat} (hd : decode y.2.1 pc = .ok (.ifCond .gt off, 3)) (ht : (pc : Int) + off = (tgt : Int)) (kt : 0 < x → J G d b y Q tgt loc st h) (kf : ¬ (0 < x) → J G d b y Q (pc + 3) loc st h) : J G d b y Q pc loc (vI x :: st) h := by
  intro p l e s m args below meth c D cA w0 A B n0 ad0 ad H ls locs cells slots C
  obtain ⟨⟨hx, hb, hml, hr, hts, hown, hnm, hlk⟩, hK, hA, hSF, hP, hD, hS, hO, hG, hst, hlo, hL, had, hn0, hc, hs⟩ := id C
  have hX : R32 x := ok_h hst
  have K := CJ_st C (ok_t hst)
  exact lv_if_gt hx hb hd ht (fun q => kt ((i32_lt r32_0 hX).mp q) p l e s m args below meth c D cA w0 A B n0 ad0 ad H ls locs cells slots K) (fun q => kf (fun z => q ((i32_lt r32_0 hX).mpr z)) p l e s m args below meth c D cA w0 A B n0 ad0 ad H ls locs cells slots K)

theorem J_icmp_le {x z : Int} {off : Int} {tgt : Nat} (hd : decode y.2.1 pc = .ok (.if_icmp .le off, 3)) (ht : (pc : Int) + off = (tgt : Int)) (kt : x ≤ z → J G d b y Q tgt loc st h) (kf : ¬ (x ≤ z) → J G d b y Q (pc + 3) loc st h) : J G d b y Q pc loc (vI z :: vI x :: st) h := by
  intro p l e s m args below meth c D cA w0 A B n0 ad0 ad H ls locs cells slots C
  obtain ⟨⟨hx, hb, hml, hr, hts, hown, hnm, hlk⟩, hK, hA, hSF, hP, hD, hS, hO, hG, hst, hlo, hL, had, hn0, hc, hs⟩ := id C
  have hX : R32 x := ok_h (ok_t hst)
  have hZ : R32 z := ok_h hst
  have K := CJ_st C (ok_t (ok_t hst))
  exact lv_icmp_le hx hb hd ht (fun q => kt ((i32_le hX hZ).mp q) p l e s m args below meth c D cA w0 A B n0 ad0 ad H ls locs cells slots K) (fun q => kf (fun z => q ((i32_le hX hZ).mpr z)) p l e s m args below meth c D cA w0 A B n0 ad0 ad H ls locs cells slots K)

theorem J_if_le {x : Int} {off : Int} {tgt : Nat} (hd : decode y.2.1 pc = .ok (.ifCond .le off, 3)) (ht : (pc : Int) + off = (tgt : Int)) (kt : x ≤ 0 → J G d b y Q tgt loc st h) (kf : ¬ (x ≤ 0) → J G d b y Q (pc + 3) loc st h) : J G d b y Q pc loc (vI x :: st) h := by
  intro p l e s m args below meth c D cA w0 A B n0 ad0 ad H ls locs cells slots C
  obtain ⟨⟨hx, hb, hml, hr, hts, hown, hnm, hlk⟩, hK, hA, hSF, hP, hD, hS, hO, hG, hst, hlo, hL, had, hn0, hc, hs⟩ := id C
  have hX : R32 x := ok_h hst
  have K := CJ_st C (ok_t hst)
  exact lv_if_le hx hb hd ht (fun q => kt ((i32_le hX r32_0).mp q) p l e s m args below meth c D cA w0 A B n0 ad0 ad H ls locs cells slots K) (fun q => kf (fun z => q ((i32_le hX r32_0).mpr z)) p l e s m args below meth c D cA w0 A B n0 ad0 ad H ls locs cells slots K)

theorem J_goto {off : Int} {tgt : Nat} (hd : decode y.2.1 pc = .ok (.goto off, 3)) (ht : (pc : Int) + off = (tgt : Int)) (k : J G d b y Q tgt loc st h) : J G d b y Q pc loc st h := by
  intro p l e s m args below meth c D cA w0 A B n0 ad0 ad H ls locs cells slots C
  obtain ⟨⟨hx, hb, hml, hr, hts, hown, hnm, hlk⟩, hK, hA, hSF, hP, hD, hS, hO, hG, hst, hlo, hL, had, hn0, hc, hs⟩ := id C
  exact lv_goto hx hb hd ht (k p l e s m args below meth c D cA w0 A B n0 ad0 ad H ls locs cells slots C)
theorem J_ifnull {r : Option Nat} {off : Int} {tgt : Nat} (hd : decode y.2.1 pc = .ok (.ifnull off, 3)) (ht : (pc : Int) + off = (tgt : Int)) (kt : r = none → J G d b y Q tgt loc st h) (kf : r ≠ none → J G d b y Q (pc + 3) loc st h) : J G d b y Q pc loc (vR r :: st) h := by
  intro p l e s m args below meth c D cA w0 A B n0 ad0 ad H ls locs cells slots C
  obtain ⟨⟨hx, hb, hml, hr, hts, hown, hnm, hlk⟩, hK, hA, hSF, hP, hD, hS, hO, hG, hst, hlo, hL, had, hn0, hc, hs⟩ := id C
  have K := CJ_st C (ok_t hst)
  cases r with
  | none => exact lv_ifnullN hx hb hd ht (kt rfl p l e s m args below meth c D cA w0 A B n0 ad0 ad H ls locs cells slots K)
  | some r => exact lv_ifnull hx hb hd (kf (fun q => by cases q) p l e s m args below meth c D cA w0 A B n0 ad0 ad H ls locs cells slots K)
theorem J_ifnonnull {r : Option Nat} {off : Int} {tgt : Nat} (hd : decode y.2.1 pc = .ok (.ifnonnull off, 3)) (ht : (pc : Int) + off = (tgt : Int)) (kt : r ≠ none → J G d b y Q tgt loc st h) (kf : r = none → J G d b y Q (pc + 3) loc st h) : J G d b y Q pc loc (vR r :: st) h := by
  intro p l e s m args below meth c D cA w0 A B n0 ad0 ad H ls locs cells slots C
  obtain ⟨⟨hx, hb, hml, hr, hts, hown, hnm, hlk⟩, hK, hA, hSF, hP, hD, hS, hO, hG, hst, hlo, hL, had, hn0, hc, hs⟩ := id C
  have K := CJ_st C (ok_t hst)
  cases r with
  | none => exact lv_ifnonnullN hx hb hd (kf rfl p l e s m args below meth c D cA w0 A B n0 ad0 ad H ls locs cells slots K)
  | some r => exact lv_ifnonnull hx hb hd ht (kt (fun q => by cases q) p l e s m args below meth c D cA w0 A B n0 ad0 ad H ls locs cells slots K)
theorem J_tsIn {x : Int} {dflt lo hi : Int} {offs : Array Int} {len : Nat} {off : Int} {tgt : Nat} (v : Int) (hv : x = v) (hlo : lo ≤ v) (hhi : v ≤ hi) (ho : offs[(v - lo).toNat]? = some off) (hd : decode y.2.1 pc = .ok (.tableswitch dflt lo hi offs, len)) (ht : (pc : Int) + off = (tgt : Int)) (k : J G d b y Q tgt loc st h) : J G d b y Q pc loc (vI x :: st) h := by
  intro p l e s m args below meth c D cA w0 A B n0 ad0 ad H ls locs cells slots C
  obtain ⟨⟨hx, hb, hml, hr, hts, hown, hnm, hlk⟩, hK, hA, hSF, hP, hD, hS, hO, hG, hst, hloc, hL, had, hn0, hc, hs⟩ := id C
  have hX : R32 x := ok_h hst
  subst hv
  exact lv_tableIn hx hb hd (by rw [z32 hX]; omega) (by rw [z32 hX]; omega) (by rw [z32 hX]; exact ho) ht (k p l e s m args below meth c D cA w0 A B n0 ad0 ad H ls locs cells slots (CJ_st C (ok_t hst)))
theorem J_tsOut {x : Int} {dflt lo hi : Int} {offs : Array Int} {len : Nat} {tgt : Nat} (hv : x < lo ∨ hi < x) (hd : decode y.2.1 pc = .ok (.tableswitch dflt lo hi offs, len)) (ht : (pc : Int) + dflt = (tgt : Int)) (k : J G d b y Q tgt loc st h) : J G d b y Q pc loc (vI x :: st) h := by
  intro p l e s m args below meth c D cA w0 A B n0 ad0 ad H ls locs cells slots C
  obtain ⟨⟨hx, hb, hml, hr, hts, hown, hnm, hlk⟩, hK, hA, hSF, hP, hD, hS, hO, hG, hst, hlo, hL, had, hn0, hc, hs⟩ := id C
  have hX : R32 x := ok_h hst
  exact lv_tableOut hx hb hd (by rw [z32 hX]; exact hv) ht (k p l e s m args below meth c D cA w0 A B n0 ad0 ad H ls locs cells slots (CJ_st C (ok_t hst)))
theorem J_ls {x : Int} {dflt : Int} {ps : Array (Int × Int)} {len : Nat} {off : Int} {tgt : Nat} (ho : Op.lookupswitch.offset ps.toList dflt x = off) (hp : (ps.toList.zip (ps.toList.drop 1)).all (fun (a, next) => a.1 < next.1) = true) (hd : decode y.2.1 pc = .ok (.lookupswitch dflt ps, len)) (ht : (pc : Int) + off = (tgt : Int)) (k : J G d b y Q tgt loc st h) : J G d b y Q pc loc (vI x :: st) h := by
  intro p l e s m args below meth c D cA w0 A B n0 ad0 ad H ls locs cells slots C
  obtain ⟨⟨hx, hb, hml, hr, hts, hown, hnm, hlk⟩, hK, hA, hSF, hP, hD, hS, hO, hG, hst, hlo, hL, had, hn0, hc, hs⟩ := id C
  have hX : R32 x := ok_h hst
  exact lv_lookup hx hb hd hp (by rw [z32 hX]; exact ho) ht (k p l e s m args below meth c D cA w0 A B n0 ad0 ad H ls locs cells slots (CJ_st C (ok_t hst)))
/-- what is on the stack, in the locals is in range -/
theorem J_rg {v : AV} {rest : List AV} (k : OkV h v → J G d b y Q pc loc (v :: rest) h) : J G d b y Q pc loc (v :: rest) h := by
  intro p l e s m args below meth c D cA w0 A B n0 ad0 ad H ls locs cells slots C
  obtain ⟨⟨hx, hb, hml, hr, hts, hown, hnm, hlk⟩, hK, hA, hSF, hP, hD, hS, hO, hG, hst, hlo, hL, had, hn0, hc, hs⟩ := id C
  exact k (ok_h hst) p l e s m args below meth c D cA w0 A B n0 ad0 ad H ls locs cells slots C
theorem J_rgl {v : AV} {i : Nat} (hl : loc[i]? = some (some v)) (k : OkV h v → J G d b y Q pc loc st h) : J G d b y Q pc loc st h := by
  intro p l e s m args below meth c D cA w0 A B n0 ad0 ad H ls locs cells slots C
  obtain ⟨⟨hx, hb, hml, hr, hts, hown, hnm, hlk⟩, hK, hA, hSF, hP, hD, hS, hO, hG, hst, hlo, hL, had, hn0, hc, hs⟩ := id C
  exact k (ok_loc hlo hl) p l e s m args below meth c D cA w0 A B n0 ad0 ad H ls locs cells slots C
theorem J_rgh (k : OkH h → Gd G h → J G d b y Q pc loc st h) : J G d b y Q pc loc st h := by
  intro p l e s m args below meth c D cA w0 A B n0 ad0 ad H ls locs cells slots C
  obtain ⟨⟨hx, hb, hml, hr, hts, hown, hnm, hlk⟩, hK, hA, hSF, hP, hD, hS, hO, hG, hst, hlo, hL, had, hn0, hc, hs⟩ := id C
  exact k hO hG p l e s m args below meth c D cA w0 A B n0 ad0 ad H ls locs cells slots C
end ROWA
