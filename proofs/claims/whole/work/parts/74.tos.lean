/-! what the reference does while a piece of an expression is read -/
def fiX (mode o a : Int) : Int := if mode = 0 then o - 1 else if o = 1 then 9 else if o = 2 then 11 else if o = 3 then 12 else if o = 4 then 13 else if o = 5 then 14 + a else if o = 6 then 22 + a else 30 + a
def mX (mode : Int) : Int := if mode = 0 then 10 else 37
def MMc (mode : Int) (C : Cd) (k : Int) (x : Vl) : Prop := MM (fiX mode) (mX mode) C.1 C.2.1 k C.2.2 x
def nJ (p : List (Int × Int)) (k : Int) : Prop := ∀ e ∈ p, e.1 = 29 ∨ e.1 = 30 → k ≤ e.2
/-- code that goes on from other code -/
def Ext (C D : Cd) : Prop := C.2.2 ≤ D.2.2 ∧ ∀ z, z < C.2.2 → D.1 z = C.1 z ∧ D.2.1 z = C.2.1 z
theorem MMc.bin {mode k o : Int} {C D : Cd} {x y : Vl} {p : List (Int × Int)} (H1 : MMc mode C k x) (E : Ext C D) (hp : nJ p C.2.2) (H2 : MMc mode (flu p D) C.2.2 y) (ho : 20 ≤ o ∧ o < 28) : MMc mode (flu (p ++ [(o, 0)]) D) k (vBin o x y) := by
  have e : flu (p ++ [(o, 0)]) D = (up1 (flu p D).1 (flu p D).2.2 o, up1 (flu p D).2.1 (flu p D).2.2 0, (flu p D).2.2 + 1) := by
    rw [flu_app]
    show fl1 (o, 0) (flu p D) = _
    unfold fl1
    dsimp only
    rw [if_neg (by omega)]
  unfold MMc at *
  rw [e]
  have n1 := H2.2.1
  refine MM.bin (H1.congr (fun z z0 z1 => ?_)) (H2.congr (fun z z0 z1 => ⟨up1_ne (by omega), up1_ne (by omega)⟩)) up1_eq ho
  have q := flu_keep p D hp E.1 z z1
  exact ⟨(up1_ne (by omega)).trans (q.1.trans (E.2 z z1).1), (up1_ne (by omega)).trans (q.2.trans (E.2 z z1).2)⟩
theorem MMc.not {mode k : Int} {D : Cd} {x : Vl} {p : List (Int × Int)} (H : MMc mode (flu p D) k x) : MMc mode (flu (p ++ [(28, 0)]) D) k (vNot x) := by
  have e : flu (p ++ [((28 : Int), (0 : Int))]) D = (up1 (flu p D).1 (flu p D).2.2 28, up1 (flu p D).2.1 (flu p D).2.2 0, (flu p D).2.2 + 1) := by
    rw [flu_app]
    rfl
  unfold MMc at *
  rw [e]
  exact MM.not (H.congr (fun z z0 z1 => ⟨up1_ne (by omega), up1_ne (by omega)⟩)) up1_eq
theorem MMc.jmp {mode k o : Int} {C D : Cd} {x y : Vl} {p : List (Int × Int)} (H1 : MMc mode C k x) (E : Ext (up1 C.1 C.2.2 o, up1 C.2.1 C.2.2 0, C.2.2 + 1) D) (hp : nJ p (C.2.2 + 1)) (H2 : MMc mode (flu p D) (C.2.2 + 1) y) (ho : o = 29 ∨ o = 30) : MMc mode (flu (p ++ [(o, C.2.2)]) D) k (vJmp (if o = 29 then 0 else 1) x y) := by
  have e : flu (p ++ [(o, C.2.2)]) D = ((flu p D).1, up1 (flu p D).2.1 C.2.2 (flu p D).2.2, (flu p D).2.2) := by
    rw [flu_app]
    show fl1 (o, C.2.2) (flu p D) = _
    unfold fl1
    dsimp only
    rw [if_pos ho]
  unfold MMc at *
  rw [e]
  have n1 := H2.2.1
  obtain ⟨E1, E2⟩ := E
  dsimp only at E1 E2
  have q0 := flu_keep p D hp E1 C.2.2 (by omega)
  have o0 : (flu p D).1 C.2.2 = o := by rw [q0.1, (E2 _ (by omega)).1, up1_eq]
  have r := MM.jmp (fi := fiX mode) (m := mX mode) (op := (flu p D).1) (arg := up1 (flu p D).2.1 C.2.2 (flu p D).2.2) (k := k) (n := C.2.2) (n2 := (flu p D).2.2) (x := x) (y := y) (H1.congr (fun z z0 z1 => ?_)) (H2.congr (fun z z0 z1 => ⟨rfl, up1_ne (by omega)⟩)) (by rw [o0]; exact ho) up1_eq
  · rw [o0] at r
    exact r
  · have q := flu_keep p D hp E1 z (by omega)
    exact ⟨q.1.trans ((E2 z (by omega)).1.trans (up1_ne (by omega))), (up1_ne (by omega)).trans (q.2.trans ((E2 z (by omega)).2.trans (up1_ne (by omega))))⟩
def TurnOk (X : Txt) (hi t i : Int) : Prop := if hi ≤ 4 then t = 0 else (t = 1 ∨ (t = 0 ∧ X.c i ≠ 287 ∧ X.c i ≠ 40))
def t1Of (hi : Int) : Int := if hi ≤ 4 then 2 else 3
def InnT (P : List (Int × Int)) (test : Int) : Prop := inn P = 31 ∨ (inn P = -1 ∧ test ≠ 0)
/-- from token i, p PARTS being read, to token i', p': it means x; what waits in the pile binds lo or more -/
def ToS (X : Txt) (lo hi dep i p i' p' : Int) (x : Vl) : Prop := ∀ (d b : Nat) (Q : Option AV → AH → Prop) (test : Int) (h0 h : AH) (P : List (Int × Int)) (t : Int), MS X h0 h i p P dep → topB P < hi → (hi ≤ 4 → InnT P test) → TurnOk X hi t i →
  (∀ h' q, MS X h0 h' i' p' (q ++ P) dep → (∀ e ∈ q, lo ≤ zbin e.1) → nJ q (gi h 0 23) → Ext (codeH h) (codeH h') → MMc X.mode (flu q (codeH h')) (gi h 0 23) x → LE d b Q test (t1Of hi) h') → LE d b Q test t h
/-- a fault at token j -/
def ToF (X : Txt) (hi dep i p j : Int) : Prop := ∀ (d b : Nat) (Q : Option AV → AH → Prop) (test : Int) (h0 h : AH) (P : List (Int × Int)) (t : Int), MS X h0 h i p P dep → topB P < hi → (hi ≤ 4 → InnT P test) → TurnOk X hi t i → BadK X h0 Q j → LE d b Q test t h
theorem Ext.rfl' {C : Cd} : Ext C C := ⟨Int.le_refl _, fun _ _ => ⟨rfl, rfl⟩⟩
theorem Ext.trans {C D E : Cd} (x : Ext C D) (y : Ext D E) : Ext C E := ⟨Int.le_trans x.1 y.1, fun z hz => ⟨((y.2 z (by have := x.1; omega)).1).trans (x.2 z hz).1, ((y.2 z (by have := x.1; omega)).2).trans (x.2 z hz).2⟩⟩
theorem Ext.flu {C : Cd} {p : List (Int × Int)} {k : Int} (h : nJ p k) (hk : k ≤ C.2.2) {D : Cd} (E : Ext D C) (e : D.2.2 = k) : Ext D (flu p C) := by
  refine ⟨?_, fun z hz => ?_⟩
  · rw [flu_n]
    have := cnt_0 p
    have := E.1
    omega
  · have q := flu_keep p C h hk z (by omega)
    exact ⟨q.1.trans (E.2 z hz).1, q.2.trans (E.2 z hz).2⟩
theorem ToS.mono {X : Txt} {lo hi lo' hi' dep i p i' p' : Int} {x : Vl} (H : ToS X lo hi dep i p i' p' x) (h1 : lo' ≤ lo) (h2 : hi' ≤ hi) (h3 : hi ≤ 4 ∨ 4 < hi') : ToS X lo' hi' dep i p i' p' x := by
  intro d b Q test h0 h P t M hP hI hT K
  refine H d b Q test h0 h P t M (by omega) (fun z => hI (by omega)) ?_ (fun h' q M' E1 E2 E3 V => ?_)
  · unfold TurnOk at *
    rcases h3 with z | z
    · rw [if_pos (by omega)] at hT
      rw [if_pos z]
      exact hT
    · rw [if_neg (by omega)] at hT
      rw [if_neg (by omega)]
      exact hT
  · have : t1Of hi = t1Of hi' := by
      unfold t1Of
      split <;> split <;> omega
    rw [this]
    exact K h' q M' (fun e he => by have := E1 e he; omega) E2 E3 V
theorem ToF.mono {X : Txt} {hi hi' dep i p j : Int} (H : ToF X hi dep i p j) (h2 : hi' ≤ hi) (h3 : hi ≤ 4 ∨ 4 < hi') : ToF X hi' dep i p j := by
  intro d b Q test h0 h P t M hP hI hT K
  refine H d b Q test h0 h P t M (by omega) (fun z => hI (by omega)) ?_ K
  unfold TurnOk at *
  rcases h3 with z | z
  · rw [if_pos (by omega)] at hT
    rw [if_pos z]
    exact hT
  · rw [if_neg (by omega)] at hT
    rw [if_neg (by omega)]
    exact hT
/-! behind a sum -/
def bop (c : Int) : Int := if c = 43 then 20 else if c = 45 then 21 else if c = 42 then 22 else if c = 47 then 23 else if c = 37 then 24 else -1
theorem bop_sg {o c : Int} (ho : 20 ≤ o ∧ o ≤ 24) (h : c = sgO o) : bop c = o := by
  have k : o = 20 ∨ o = 21 ∨ o = 22 ∨ o = 23 ∨ o = 24 := by omega
  subst h
  rcases k with k | k | k | k | k <;> subst k <;> rfl
section BEH
variable {d b : Nat} {Q : Option AV → AH → Prop} {X : Txt} {h0 h : AH} {test i p dep : Int} {P : List (Int × Int)}
theorem Tk.sg {c v : Int} (t : Tk h c v) {s : Int} (hs : 33 ≤ s ∧ s ≤ 96 ∧ ¬ ltD s) : (gi h 0 16 = 3 ∧ gl h 0 17 = s) ↔ c = s := (t.2.2.2.2.1 s hs.1 hs.2.1 hs.2.2).symm
theorem Tk.wd {c v : Int} (t : Tk h c v) (k : Nat) (hk : k < 30) : (gi h 0 16 = 1 ∧ gl h 0 17 = hsL.getD k 0) ↔ c = 258 + k := (t.2.2.2.2.2 k hk).symm
theorem beh_sel {v : Int} {c : Int} (t : Tk h c v) (K : Lp_X8_behindSum_72 d b Q test (bop c) h) : WM GM (d + 3) b mX8_behindSum [vR (some 0), vI test] h Q := by
  unfold bop at K
  refine w_X8_behindSum ⟨fun z => ?_, fun z1 => ⟨fun z => ?_, fun z2 => ⟨fun z => ?_, fun z3 => ⟨fun z => ?_, fun z4 => ⟨fun z => ?_, fun z5 => ?_⟩⟩⟩⟩⟩
  · rw [if_pos ((t.sg (by decide)).mp z)] at K
    exact K
  all_goals rw [if_neg (fun e => z1 ((t.sg (by decide)).mpr e))] at K
  · rw [if_pos ((t.sg (by decide)).mp z)] at K
    exact K
  all_goals rw [if_neg (fun e => z2 ((t.sg (by decide)).mpr e))] at K
  · rw [if_pos ((t.sg (by decide)).mp z)] at K
    exact K
  all_goals rw [if_neg (fun e => z3 ((t.sg (by decide)).mpr e))] at K
  · rw [if_pos ((t.sg (by decide)).mp z)] at K
    exact K
  all_goals rw [if_neg (fun e => z4 ((t.sg (by decide)).mpr e))] at K
  · rw [if_pos ((t.sg (by decide)).mp z)] at K
    exact K
  · rw [if_neg (fun e => z5 ((t.sg (by decide)).mpr e))] at K
    exact K
theorem pileN (M : MS X h0 h i p P dep) : (gi h 0 29).toNat = P.length ∧ 0 ≤ gi h 0 29 ∧ gi h 0 29 ≤ 400 := by
  have := M.m0.pm.1
  have := M.m0.ln
  have := M.m0.i4
  omega
theorem beh_no (M : MS X h0 h i p P dep) (hc : bop (X.c i) = -1) (K : Lp_X8_behindSum_102 d b Q test (inn P) h) : WM GM (d + 3) b mX8_behindSum [vR (some 0), vI test] h Q := by
  refine beh_sel M.tk.2.2.2 ?_
  rw [hc]
  have n := pileN M
  refine l_X8_behindSum_72 ⟨fun _ => ⟨n.2, ?_⟩, fun z => absurd rfl z⟩
  rw [n.1, innF_eq M.m0.pm.2]
  exact K
end BEH
theorem zbin_op {o : Int} (ho : 20 ≤ o ∧ o ≤ 24) : zbin o = 5 ∨ zbin o = 6 := by
  have k : o = 20 ∨ o = 21 ∨ o = 22 ∨ o = 23 ∨ o = 24 := by omega
  rcases k with k | k | k | k | k <;> subst k <;> decide
theorem nJ.nil {k : Int} : nJ [] k := fun _ h => by cases h
theorem nJ.app {p q : List (Int × Int)} {k k2 : Int} (h1 : nJ p k2) (h2 : nJ q k) (hk : k ≤ k2) : nJ (p ++ q) k := fun e he c => by
  rcases List.mem_append.mp he with z | z
  · have := h1 e z c
    omega
  · exact h2 e z c
theorem nJ.one {o a k : Int} (h : o = 29 ∨ o = 30 → k ≤ a) : nJ [(o, a)] k := fun e he c => by
  have : e = (o, a) := List.mem_singleton.mp he
  subst this
  exact h c
theorem sgO_c {o c : Int} (ho : 20 ≤ o ∧ o < 28) (h : c = sgO o) : c ≠ -1 := by
  have := sgO_R ho
  omega
section TOS
variable {X : Txt} {lo hi dep i p i1 p1 i2 p2 o lv : Int} {x y : Vl}
theorem ToS.bin (L : LxOK X) (ho : 20 ≤ o ∧ o ≤ 24) (hlv : zbin o = lv) (H1 : ToS X lv lv dep i p i1 p1 x) (hc : X.c i1 = sgO o) (H2 : ToS X (lv + 1) (lv + 1) dep (i1 + 1) p1 i2 p2 y) : ToS X lv lv dep i p i2 p2 (vBin o x y) := by
  intro d b Q test h0 h P t M hP hI hT K
  have z5 := zbin_op ho
  have tt : t1Of lv = 3 := by unfold t1Of; rw [if_neg (by omega)]
  refine H1 d b Q test h0 h P t M hP hI hT (fun h1 q M1 E1 J1 X1 V1 => ?_)
  rw [tt]
  have k0 := M1.m0.k0
  refine LE_sum M1.ok (beh_sel M1.tk.2.2.2 ?_)
  rw [bop_sg ho hc]
  refine l_X8_behindSum_72 ⟨fun z => by omega, fun _ => ?_⟩
  rw [hlv]
  refine c_set M1.m0 hP (by omega) E1 (fun h2 F2 M2 C2 => ⟨rfl, ?_⟩)
  have pm := M2.pm.1
  have ln := M2.ln
  have l1 := L.lt M1.tk.1 (sgO_c (by omega) hc)
  have l2 := L.m1
  refine ⟨by omega, fun h3 e3 => ?_⟩
  replace e3 : h3 = psh h2 o 0 := e3
  subst e3
  have M3 := M2.pshK (o := o) (a := 0) (by omega) (by omega)
  refine next_T L (M.tp.fr M3.fr) ((M1.tk.frT F2).pshK) (sgO_c (by omega) hc) (fun h4 F4 T4 => ⟨rfl, 1, rfl, ?_⟩)
  have M4 := M3.frN F4 (j := i1 + 1) ⟨Int.le_refl _, by omega⟩
  have c4 : codeH h4 = flu q (codeH h1) := by rw [F4.code, psh_code, C2]
  refine H2 d b Q test h0 h4 ((o, 0) :: P) 1 ⟨M4, ?_, T4, ?_, M1.p0, ?_, M1.d0, M1.tp⟩ (by show zbin o < _; omega) (fun z => by omega) (by unfold TurnOk; rw [if_neg (by omega)]; exact Or.inl rfl) (fun h5 q5 M5 E5 J5 X5 V5 => ?_)
  · rw [F4.1 _ _ (by omega), psh_gi (by decide), F2.1 _ _ (by omega)]
    exact M1.ok
  · rw [F4.1 _ _ (by omega), psh_gi (by decide), F2.1 _ _ (by omega)]
    exact M1.lv
  · rw [F4.1 _ _ (by omega), psh_gi (by decide), F2.1 _ _ (by omega)]
    exact M1.dp
  · have ea : q5 ++ (o, 0) :: P = (q5 ++ [(o, 0)]) ++ P := by rw [List.append_assoc]; rfl
    rw [ea] at M5
    have eb : t1Of (lv + 1) = t1Of lv := by unfold t1Of; rw [if_neg (by omega), if_neg (by omega)]
    have en : (flu q (codeH h1)).2.2 = gi h4 0 23 := by rw [← c4]; rfl
    have hk : gi h 0 23 ≤ (flu q (codeH h1)).2.2 := by
      rw [flu_n]
      have := cnt_0 q
      have := X1.1
      unfold codeH at this
      dsimp only [codeH] at this ⊢
      omega
    rw [c4] at X5
    rw [← en] at J5 V5
    rw [eb] at *
    rw [tt] at K
    refine (tt ▸ K h5 (q5 ++ [(o, 0)]) M5 (fun e he => ?_) (J5.app (nJ.one (fun z => by omega)) hk) ((X1.flu J1 X1.1 rfl).trans X5) (MMc.bin V1 X5 J5 V5 (by omega)))
    rcases List.mem_append.mp he with z | z
    · have := E5 e z
      omega
    · rw [List.mem_singleton.mp z]
      show lv ≤ zbin o
      omega
end TOS
