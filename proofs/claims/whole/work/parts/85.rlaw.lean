/-! whole expressions in the reference; clauses of a law there -/
def FrR (a h : AH) : Prop := (∀ q x, ¬ (q = 10 ∨ q = 11 ∨ q = 12 ∨ q = 13 ∨ q = 14 ∨ q = 29 ∨ (q = 0 ∧ (x = 14 ∨ x = 15 ∨ x = 16 ∨ x = 18 ∨ x = 19 ∨ x = 21 ∨ x = 23 ∨ x = 26 ∨ x = 29 ∨ x = 30))) → gi h q x = gi a q x) ∧ ∀ q x, ¬ (q = 0 ∧ x = 17) → gl h q x = gl a q x
theorem FrR.rfl' {a : AH} : FrR a a := ⟨fun _ _ _ => rfl, fun _ _ _ => rfl⟩
theorem FrR.trans {a b c : AH} (x : FrR a b) (y : FrR b c) : FrR a c := ⟨fun q k z => (y.1 q k z).trans (x.1 q k z), fun q k z => (y.2 q k z).trans (x.2 q k z)⟩
theorem FrP.r {a b : AH} (x : FrP a b) : FrR a b := ⟨fun q k z => x.1 q k (by omega), x.2⟩
theorem FrR.si {a b : AH} (x : FrR a b) {q : Nat} {i v : Int} (h : q = 10 ∨ q = 29 ∨ (q = 0 ∧ i = 21)) : FrR a (si b q i v) := x.trans ⟨fun q' k z => by rw [gi_si, if_neg (fun e => z (by rw [e.1, e.2]; omega))], fun _ _ _ => rfl⟩
theorem TapeM.frR {X : Txt} {a b : AH} (t : TapeM X a) (x : FrR a b) : TapeM X b :=
  ⟨(x.1 _ _ (by omega)).trans t.1, fun k k0 k1 => (x.1 _ _ (by omega)).trans (t.2.1 k k0 k1), (x.1 _ _ (by omega)).trans t.2.2.1, fun k hk => (x.2 _ _ (by omega)).trans (t.2.2.2.1 k hk), fun k hk => (x.2 _ _ (by omega)).trans (t.2.2.2.2.1 k hk), fun k hk => (x.2 _ _ (by omega)).trans (t.2.2.2.2.2.1 k hk), fun k hk => (x.2 _ _ (by omega)).trans (t.2.2.2.2.2.2 k hk)⟩
/-- all code is of its kind -/
def AllC (mode : Int) (C : Cd) : Prop := ∀ z, 0 ≤ z → z < C.2.2 → 0 ≤ C.1 z ∧ C.1 z ≤ 30 ∧ (C.1 z < 20 → C.1 z ≤ lim (mX mode) ∧ okA (mX mode) (C.1 z) (C.2.1 z))
theorem AllC.go {mode k : Int} {C D : Cd} {x : Vl} (A : AllC mode C) (E : Ext C D) (hk : k = C.2.2) (V : MMc mode D k x) : AllC mode D := fun z z0 z1 => by
  by_cases c : z < C.2.2
  · rw [(E.2 z c).1, (E.2 z c).2]
    exact A z z0 c
  · exact V.2.2.1 z (by omega) z1
theorem code_w {h : AH} {q : Nat} {k v : Int} (hq : q ≠ 11 ∧ q ≠ 12 ∧ ¬ (q = 0 ∧ k = 23)) : codeH (si h q k v) = codeH h := by
  unfold codeH
  rw [giF_no (show (11 : Nat) ≠ q by omega), giF_no (show (12 : Nat) ≠ q by omega), gi_si, if_neg (fun y => hq.2.2 ⟨y.1.symm, y.2.symm⟩)]
/-- between expressions -/
def MC (X : Txt) (h : AH) (i p : Int) : Prop := gi h 0 19 = 0 ∧ TokAt X h i ∧ gi h 0 26 = p ∧ (0 ≤ p ∧ p ≤ 50) ∧ (0 ≤ gi h 0 23 ∧ (gi h 0 23 + 1 ≤ i ∨ (i = 0 ∧ gi h 0 23 = 0)) ∧ AllC X.mode (codeH h)) ∧ TapeM X h
section EXPR
variable {d b : Nat} {Q : Option AV → AH → Prop} {X : Txt} {h : AH} {i p i' p' j : Int} {x : Vl}
theorem MC.wr (M : MC X h i p) {q : Nat} {k v : Int} (hq : q = 10 ∨ q = 29 ∨ (q = 0 ∧ k = 21)) : MC X (si h q k v) i p := by
  obtain ⟨m1, m2, m3, m4, m5, m6⟩ := M
  have e : ∀ z : Int, z ≠ 21 → gi (si h q k v) 0 z = gi h 0 z := fun z hz => by rw [gi_si, if_neg (fun y => by omega)]
  exact ⟨(e 19 (by decide)).trans m1, m2.fr (e 14 (by decide)) ⟨e 15 (by decide), e 18 (by decide)⟩ (e 16 (by decide)) rfl, (e 26 (by decide)).trans m3, m4, by rw [e 23 (by decide), code_w (by omega)]; exact m5, m6.frR (FrR.rfl'.si hq)⟩
theorem MC.ms (L : LxOK X) (M : MC X h i p) (hi : 1 ≤ i) : MS X h (si (si h 0 29 0) 0 30 0) i p [] 0 := by
  obtain ⟨m1, m2, m3, m4, m5, m6⟩ := M
  have l := L.m1
  have t := m2.1
  have e : ∀ z : Int, z ≠ 29 → z ≠ 30 → gi (si (si h 0 29 0) 0 30 0) 0 z = gi h 0 z := fun z a1 a2 => by rw [gi_nk a2, gi_nk a1]
  refine ⟨⟨⟨?_, True.intro⟩, fun _ z => (by cases z), by rw [List.length_nil]; omega, by omega, ?_, ?_, (FrP.rfl'.si (by omega)).si (by omega)⟩, (e 19 (by decide) (by decide)).trans m1, m2.fr (e 14 (by decide) (by decide)) ⟨e 15 (by decide) (by decide), e 18 (by decide) (by decide)⟩ (e 16 (by decide) (by decide)) rfl, (e 26 (by decide) (by decide)).trans m3, m4, gi_eq, by decide, m6⟩
  · rw [gi_nk (by decide), gi_eq]
    rfl
  · rw [e 23 (by decide) (by decide)]
    exact m5.1
  · rw [e 23 (by decide) (by decide)]
    show _ + 0 + 1 ≤ _
    omega
theorem code_open {h : AH} : codeH (si (si h 0 29 0) 0 30 0) = codeH h := by
  unfold codeH
  rw [giF_no (show (11 : Nat) ≠ 0 by decide), giF_no (show (11 : Nat) ≠ 0 by decide), giF_no (show (12 : Nat) ≠ 0 by decide), giF_no (show (12 : Nat) ≠ 0 by decide), gi_nk (by decide), gi_nk (by decide)]
theorem fin_MC {h' h2 : AH} {q : List (Int × Int)} {test : Int} (A : AllC X.mode (codeH h)) (M : MS X h h' i' p' (q ++ []) 0) (h1 : ∀ e ∈ q, 1 ≤ zbin e.1) (J : nJ q (gi h 0 23)) (E : Ext (codeH h) (codeH h')) (V : MMc X.mode (flu q (codeH h')) (gi h 0 23) x)
    (K : ∀ h', MC X h' i' p' → FrP h h' → Ext (codeH h) (codeH h') → MMc X.mode (codeH h') (gi h 0 23) x → Q none h') : LE d b Q test 4 h' := by
  refine l_X8_readExpression_20 ⟨fun _ => ⟨fun _ => c_set M.m0 (show topB [] < 1 by decide) (by decide) h1 (fun h2 F M2 C => ⟨rfl, K h2 ⟨(F.1 _ _ (by omega)).trans M.ok, M.tk.frT F, (F.1 _ _ (by omega)).trans M.lv, M.p0, ⟨M2.k0, Or.inl ?_, ?_⟩, M.tp.fr M2.fr⟩ M2.fr ?_ ?_⟩), fun z => absurd rfl z⟩, fun z => absurd M.ok z⟩
  · have := M2.cd
    have c0 := cnt_0 []
    omega
  · rw [C]
    exact A.go (E.flu J E.1 rfl) rfl V
  · rw [C]
    exact E.flu J E.1 rfl
  · rw [C]
    exact V
theorem rdSum (L : LxOK X) (M : MC X h i p) (hi : 1 ≤ i) (H : ToS X 5 5 0 i p i' p' x) (hb : bop (X.c i') = -1) (K : ∀ h', MC X h' i' p' → FrP h h' → Ext (codeH h) (codeH h') → MMc X.mode (codeH h') (gi h 0 23) x → Q none h') : WM GM (d + 6) b mX8_readExpression [vR (some 0), vI 0] h Q := by
  refine w_X8_readExpression (fun h1 e1 h2 e2 => ⟨fun _ => ?_, fun z => absurd rfl z⟩)
  subst e2 e1
  have S := M.ms L hi
  have k1 : gi (si (si h 0 29 0) 0 30 0) 0 23 = gi h 0 23 := by rw [gi_nk (by decide), gi_nk (by decide)]
  refine H d b Q 0 h _ [] 1 S (by decide) (fun z => by omega) (by unfold TurnOk; rw [if_neg (by decide)]; exact Or.inl rfl) (fun h' q M' E1 J E V => ?_)
  rw [code_open] at E
  rw [k1] at J V
  have e0 : inn (q ++ []) = -1 := inn_app (q := []) (fun e he => zbin_1 (by have := E1 e he; omega))
  refine LE_sum M'.ok (beh_no M' hb ?_)
  rw [e0]
  refine l_X8_behindSum_102 ⟨fun z => by omega, fun _ => ⟨fun _ => ⟨fun _ => ⟨4, rfl, ?_⟩, fun z => absurd rfl z⟩, fun z => absurd rfl z⟩⟩
  exact fin_MC (h2 := h) M.2.2.2.2.1.2.2 M' (fun e he => by have := E1 e he; omega) J E V K
theorem rdSumF (L : LxOK X) (M : MC X h i p) (hi : 1 ≤ i) (H : ToF X 5 0 i p j) (K : BadK X h Q j) : WM GM (d + 6) b mX8_readExpression [vR (some 0), vI 0] h Q := by
  refine w_X8_readExpression (fun h1 e1 h2 e2 => ⟨fun _ => ?_, fun z => absurd rfl z⟩)
  subst e2 e1
  exact H d b Q 0 h _ [] 1 (M.ms L hi) (by decide) (fun z => by omega) (by unfold TurnOk; rw [if_neg (by decide)]; exact Or.inl rfl) K
theorem rdTst (L : LxOK X) (M : MC X h i p) (hi : 1 ≤ i) (H : ToS X 1 1 0 i p i' p' x) (hb : X.c i' ≠ 286 ∧ X.c i' ≠ 285) (K : ∀ h', MC X h' i' p' → FrP h h' → Ext (codeH h) (codeH h') → MMc X.mode (codeH h') (gi h 0 23) x → Q none h') : WM GM (d + 6) b mX8_readExpression [vR (some 0), vI 1] h Q := by
  refine w_X8_readExpression (fun h1 e1 h2 e2 => ⟨fun z => absurd z (by decide), fun _ => ?_⟩)
  subst e2 e1
  have k1 : gi (si (si h 0 29 0) 0 30 0) 0 23 = gi h 0 23 := by rw [gi_nk (by decide), gi_nk (by decide)]
  refine H d b Q 1 h _ [] 0 (M.ms L hi) (by decide) (fun _ => Or.inr ⟨rfl, by decide⟩) (by unfold TurnOk; rw [if_pos (by decide)]) (fun h' q M' E1 J E V => ?_)
  rw [code_open] at E
  rw [k1] at J V
  have e0 : inn (q ++ []) = -1 := inn_app (q := []) (fun e he => zbin_1 (E1 e he))
  exact LE_tst M'.ok (bt_no M' hb ⟨fun _ => ⟨4, rfl, fin_MC (h2 := h) M.2.2.2.2.1.2.2 M' E1 J E V K⟩, fun z => absurd e0 z⟩)
theorem rdTstF (L : LxOK X) (M : MC X h i p) (hi : 1 ≤ i) (H : ToF X 1 0 i p j) (K : BadK X h Q j) : WM GM (d + 6) b mX8_readExpression [vR (some 0), vI 1] h Q := by
  refine w_X8_readExpression (fun h1 e1 h2 e2 => ⟨fun z => absurd z (by decide), fun _ => ?_⟩)
  subst e2 e1
  exact H d b Q 1 h _ [] 0 (M.ms L hi) (by decide) (fun _ => Or.inr ⟨rfl, by decide⟩) (by unfold TurnOk; rw [if_pos (by decide)]) K
theorem MC.next (L : LxOK X) (M : MC X h i p) (hc : X.c i ≠ -1) (k : ∀ h', FrN h h' → MC X h' (i + 1) p → Q none h') : WM GM (d + 1) b mX8_next [vR (some 0)] h Q := by
  obtain ⟨m1, m2, m3, m4, m5, m6⟩ := M
  exact next_T L m6 m2 hc (fun h' F t => k h' F ⟨(F.1 _ _ (by omega)).trans m1, t, (F.1 _ _ (by omega)).trans m3, m4, ⟨by rw [F.1 _ _ (by omega)]; omega, by rw [F.1 _ _ (by omega)]; omega, by rw [F.code]; exact m5.2.2⟩, m6.fr F.p⟩)
theorem MC.must (L : LxOK X) (M : MC X h i p) (hc : X.c i ≠ -1) {v : Int} (hv : v ≠ 0) (k : ∀ h', FrN h h' → MC X h' (i + 1) p → Q none h') : WM GM (d + 2) b mX8_must [vR (some 0), vI v] h Q := by
  obtain ⟨m1, m2, m3, m4, m5, m6⟩ := M
  exact must_1 L m6 m1 m2 hc hv (fun h' F t => k h' F ⟨(F.1 _ _ (by omega)).trans m1, t, (F.1 _ _ (by omega)).trans m3, m4, ⟨by rw [F.1 _ _ (by omega)]; omega, by rw [F.1 _ _ (by omega)]; omega, by rw [F.code]; exact m5.2.2⟩, m6.fr F.p⟩)
theorem MC.must0 (M : MC X h i p) (K : BadK X h Q i) : WM GM (d + 2) b mX8_must [vR (some 0), vI 0] h Q := by
  refine must_0 M.1 (K _ ((FrP.rfl'.si (by omega)).si (by omega)) ?_ ?_)
  · rw [gi_nk (by decide), gi_eq]
  · rw [gi_eq]
    exact M.2.1.2.1
/-! a clause: its verb, its sums, how often, its test -/
abbrev Rec : Type := Int × Option Vl × Option Vl × Int × Option Vl
/-- a value's place in the reference's code: from its place a of array f to its place a + 1 -/
def RgM (mode : Int) (C : Cd) (f : Int → Int) (a : Int) (o : Option Vl) : Prop := match o with
  | none => f (a + 1) = f a
  | some x => 0 ≤ f a ∧ f (a + 1) ≤ C.2.2 ∧ C.2.2 < 400 ∧ MM (fiX mode) (mX mode) C.1 C.2.1 (f a) (f (a + 1)) x
def Hvo (v : Int) (o : Option Vl) : Prop := (v < 2 → o ≠ none) ∧ (2 ≤ v → o = none)
def ClL (C : Cd) (f : Int → Int) (n : Int) (r : Rec) : Prop := f (8 * n) = r.1 ∧ ((0 ≤ r.1 ∧ r.1 ≤ 3) ∧ Hvo r.1 r.2.1) ∧ RgM 0 C f (8 * n + 3) r.2.1 ∧ RgM 0 C f (8 * n + 5) r.2.2.2.2
theorem RgM.ext {mode : Int} {C D : Cd} {f g : Int → Int} {a : Int} {o : Option Vl} (H : RgM mode C f a o) (E : Ext C D) (h4 : D.2.2 < 400) (e1 : g a = f a) (e2 : g (a + 1) = f (a + 1)) : RgM mode D g a o := by
  match o, H with
  | none, H => exact e2.trans (H.trans e1.symm)
  | some x, H =>
    obtain ⟨h1, h2, h3, h5⟩ := H
    have := E.1
    refine ⟨by omega, by omega, h4, ?_⟩
    rw [e1, e2]
    exact h5.congr (fun z z0 z1 => E.2 z (by omega))
theorem ClL.ext {C D : Cd} {f g : Int → Int} {n : Int} {r : Rec} (H : ClL C f n r) (E : Ext C D) (h4 : D.2.2 < 400) (e : ∀ k, 0 ≤ k → k < 8 → g (8 * n + k) = f (8 * n + k)) : ClL D g n r := by
  have e0 := e 0 (by decide) (by decide)
  rw [Int.add_zero] at e0
  refine ⟨e0.trans H.1, H.2.1, H.2.2.1.ext E h4 (e 3 (by decide) (by decide)) ?_, H.2.2.2.ext E h4 (e 5 (by decide) (by decide)) ?_⟩
  · rw [show 8 * n + 3 + 1 = 8 * n + 4 by omega]
    exact e 4 (by decide) (by decide)
  · rw [show 8 * n + 5 + 1 = 8 * n + 6 by omega]
    exact e 6 (by decide) (by decide)
theorem lp_head (t : TokAt X h i) (T : TabM h) : ∀ (f : Nat) (k v : Int), k + f = 4 → 0 ≤ k → (∀ y, y = (if 273 + k ≤ X.c i ∧ X.c i ≤ 276 then X.c i - 273 else v) → Lp_X8_readLaw_34 d b Q y h) → Lp_X8_readLaw_4 d b Q v k h
  | 0, k, v, e, k0, K => l_X8_readLaw_4 ⟨fun _ => K v (by rw [if_neg (by omega)]), fun z => by omega⟩
  | f + 1, k, v, e, k0, K => by
    have q : ∀ k : Nat, k < 4 → hTab.getD k 0 = hsL.getD (15 + k) 0 := by decide
    have w := t.2.2.2.wd (15 + k.toNat) (by omega)
    have g := T.2.2.1 k.toNat (by omega)
    rw [show ((k.toNat : Nat) : Int) = k by omega] at g
    refine l_X8_readLaw_4 ⟨fun z => by omega, fun _ => ⟨by omega, ?_⟩⟩
    rw [g, q k.toNat (by omega)]
    refine ⟨fun z => ⟨by omega, ?_⟩, fun z => ⟨by omega, ?_⟩⟩
    · have c := w.mp z
      refine lp_head t T f (k + 1) k (by omega) (by omega) (fun y hy => K y ?_)
      rw [hy, if_neg (by omega), if_pos (by omega)]
      omega
    · have c : X.c i ≠ 273 + k := fun y => z (w.mpr (by omega))
      refine lp_head t T f (k + 1) v (by omega) (by omega) (fun y hy => K y ?_)
      rw [hy]
      split <;> split <;> omega
/-- a clause is begun -/
def Mid (X : Txt) (h h' : AH) (n i p v : Int) : Prop := MC X h' i p ∧ gi h' 0 21 = n + 1 ∧ FrR h h' ∧ codeH h' = codeH h ∧ gi h' 10 (8 * n) = v ∧ gi h' 10 (8 * n + 3) = gi h 0 23 ∧ ∀ k, ¬ (8 * n ≤ k ∧ k < 8 * n + 8) → gi h' 10 k = gi h 10 k
theorem code_si10 {q : Nat} {k v : Int} (hq : q ≠ 11 ∧ q ≠ 12 ∧ ¬ (q = 0 ∧ k = 23)) : codeH (si h q k v) = codeH h := by
  unfold codeH
  rw [giF_no (show (11 : Nat) ≠ q by omega), giF_no (show (12 : Nat) ≠ q by omega), gi_si, if_neg (fun y => hq.2.2 ⟨y.1.symm, y.2.symm⟩)]
theorem lp75 {n v : Int} (hn : 0 ≤ n ∧ n < 12) (K : ∀ h', Mid X h h' n i p v → (2 ≤ v → Lp_X8_readLaw_135 d b Q (8 * n) h') ∧ (¬ 2 ≤ v → WM GM (d + 6) 0 mX8_readExpression [vR (some 0), vI 0] h' (fun r h4 => r = none ∧ Lp_X8_readLaw_135 d b Q (8 * n) h4))) :
    ∀ (f : Nat) (k : Int) (h' : AH), k + f = 8 → 0 ≤ k → MC X h' i p → gi h' 0 21 = n → FrR h h' → codeH h' = codeH h → (∀ k, ¬ (8 * n ≤ k ∧ k < 8 * n + 8) → gi h' 10 k = gi h 10 k) → Lp_X8_readLaw_75 d b Q v (8 * n) k h'
  | 0, k, h', e, k0, M, e21, F, C, e10 => by
    have e23 : gi h' 0 23 = gi h 0 23 := congrArg (fun C : Cd => C.2.2) C
    refine l_X8_readLaw_75 ⟨fun _ => ⟨by omega, fun h1 e1 => ⟨by omega, fun h2 e2 => ⟨by omega, by omega, fun h3 e3 => ?_⟩⟩⟩, fun z => by omega⟩
    subst e3 e2 e1
    rw [e21, e23]
    refine K _ ⟨((M.wr (Or.inl rfl)).wr (Or.inr (Or.inr ⟨rfl, rfl⟩))).wr (Or.inl rfl), ?_, ((F.si (Or.inl rfl)).si (Or.inr (Or.inr ⟨rfl, rfl⟩))).si (Or.inl rfl), ?_, ?_, gi_eq, fun k hk => ?_⟩
    · rw [gi_no (by decide), gi_eq]
    · rw [code_si10 (by omega), code_si10 (by omega), code_si10 (by omega), C]
    · rw [gi_nk (by omega), gi_no (by decide), gi_eq]
    · rw [gi_nk (by omega), gi_no (by decide), gi_nk (by omega), e10 k hk]
  | f + 1, k, h', e, k0, M, e21, F, C, e10 => by
    refine l_X8_readLaw_75 ⟨fun z => by omega, fun _ => ⟨by omega, by omega, fun h1 e1 => ⟨by omega, ?_⟩⟩⟩
    subst e1
    exact lp75 hn K f (k + 1) _ (by omega) (by omega) (M.wr (Or.inl rfl)) ((gi_no (by decide)).trans e21) (F.si (Or.inl rfl)) ((code_si10 (by omega)).trans C) (fun z hz => (gi_nk (by omega)).trans (e10 z hz))
theorem rl_start (L : LxOK X) (M : MC X h i p) {n : Int} (e21 : gi h 0 21 = n) (hn : 0 ≤ n ∧ n < 12) (hv : 273 ≤ X.c i ∧ X.c i ≤ 276)
    (K : ∀ h', Mid X h h' n (i + 1) p (X.c i - 273) → (2 ≤ X.c i - 273 → Lp_X8_readLaw_135 d b Q (8 * n) h') ∧ (¬ 2 ≤ X.c i - 273 → WM GM (d + 6) 0 mX8_readExpression [vR (some 0), vI 0] h' (fun r h4 => r = none ∧ Lp_X8_readLaw_135 d b Q (8 * n) h4))) : WM GM (d + 7) b mX8_readLaw [vR (some 0)] h Q := by
  refine w_X8_readLaw (lp_head M.2.1 M.2.2.2.2.2.2.2.2 4 0 (-1) rfl (by decide) (fun y hy => ?_))
  rw [if_pos (by omega)] at hy
  refine l_X8_readLaw_34 ⟨fun z => by omega, fun _ => ⟨fun z => by omega, fun _ => M.must L (by omega) (by decide) (fun h1 F1 M1 => ⟨rfl, ?_⟩)⟩⟩
  have f21 : gi h1 0 21 = n := (F1.1 _ _ (by omega)).trans e21
  refine l_X8_readLaw_57 ⟨fun _ => ⟨by omega, ?_⟩, fun z => absurd M1.1 z⟩
  rw [f21, hy]
  exact lp75 hn K 8 0 h1 rfl (by decide) M1 f21 F1.p.r F1.code (fun k hk => F1.1 _ _ (by omega))
/-- a fault there -/
def BadR (X : Txt) (h0 : AH) (Q : Option AV → AH → Prop) (j : Int) : Prop := ∀ h', FrR h0 h' → gi h' 0 19 = 1 → gi h' 0 18 = X.pl j → Q none h'
theorem BadR.k {g : AH} {j : Int} (K : BadR X g Q j) (F : FrR g h) : BadK X h Q j := fun h' F' e1 e2 => K h' (F.trans F'.r) e1 e2
theorem rl_fail0 (M : MC X h i p) {n : Int} (e21 : gi h 0 21 = n) (hv : ¬ (273 ≤ X.c i ∧ X.c i ≤ 276) ∨ 12 ≤ n) (K : BadR X h Q i) : WM GM (d + 7) b mX8_readLaw [vR (some 0)] h Q := by
  have B : ∀ y, WM GM (d + 6) 0 mX8_must [vR (some 0), vI 0] h (fun r h1 => r = none ∧ Lp_X8_readLaw_57 d b Q y h1) := fun y => M.must0 (fun h' F e1 e2 => ⟨rfl, l_X8_readLaw_57 ⟨fun z => by omega, fun _ => K h' F.r e1 e2⟩⟩)
  refine w_X8_readLaw (lp_head M.2.1 M.2.2.2.2.2.2.2.2 4 0 (-1) rfl (by decide) (fun y hy => ?_))
  refine l_X8_readLaw_34 ⟨fun z => B y, fun z => ⟨fun _ => B y, fun z2 => ?_⟩⟩
  exfalso
  rcases hv with hv | hv
  · rw [if_neg (by omega)] at hy
    omega
  · omega
theorem rl_135b {n : Int} (hn : 0 ≤ n ∧ n < 12) (e1 : gi h 0 19 = 1) (e2 : gi h 0 18 = X.pl j) {g : AH} (F : FrR g h) (K : BadR X g Q j) : Lp_X8_readLaw_135 d b Q (8 * n) h := by
  refine l_X8_readLaw_135 ⟨by omega, by omega, fun h1 z1 => ⟨by omega, by omega, fun h2 z2 => ?_⟩⟩
  subst z2 z1
  have f19 : gi (si (si h 10 (8 * n + 4) (gi h 0 23)) 10 (8 * n + 5) (gi h 0 23)) 0 19 = 1 := by rw [gi_no (by decide), gi_no (by decide)]; exact e1
  refine l_X8_readLaw_159 ⟨fun z => by omega, fun _ => l_X8_readLaw_185 ⟨by omega, by omega, fun h3 z3 => ?_⟩⟩
  subst z3
  refine K _ (((F.si (Or.inl rfl)).si (Or.inl rfl)).si (Or.inl rfl)) ?_ ?_
  · rw [gi_no (by decide)]; exact f19
  · rw [gi_no (by decide), gi_no (by decide), gi_no (by decide)]; exact e2
def Cl1 (X : Txt) (i p n i1 p1 v : Int) (ox : Option Vl) : Prop := ∀ (d b : Nat) (Q : Option AV → AH → Prop) (h : AH), MC X h i p → gi h 0 21 = n →
  (∀ h', MC X h' i1 p1 → gi h' 0 21 = n + 1 → FrR h h' → Ext (codeH h) (codeH h') → gi h' 10 (8 * n) = v → RgM 0 (codeH h') (gi h' 10) (8 * n + 3) ox → gi h' 10 (8 * n + 5) = gi h' 0 23 → (∀ k, ¬ (8 * n ≤ k ∧ k < 8 * n + 8) → gi h' 10 k = gi h 10 k) → Lp_X8_readLaw_159 d b Q (8 * n) h') → WM GM (d + 7) b mX8_readLaw [vR (some 0)] h Q
def ToL (X : Txt) (i p n i' p' : Int) (r : Rec) : Prop := ∀ (d b : Nat) (Q : Option AV → AH → Prop) (h : AH), MC X h i p → gi h 0 21 = n →
  (∀ h', MC X h' i' p' → gi h' 0 21 = n + 1 → FrR h h' → Ext (codeH h) (codeH h') → ClL (codeH h') (gi h' 10) n r → (∀ k, ¬ (8 * n ≤ k ∧ k < 8 * n + 8) → gi h' 10 k = gi h 10 k) → Q none h') → WM GM (d + 7) b mX8_readLaw [vR (some 0)] h Q
def FaL (X : Txt) (i p n j : Int) : Prop := ∀ (d b : Nat) (Q : Option AV → AH → Prop) (h : AH), MC X h i p → gi h 0 21 = n → BadR X h Q j → WM GM (d + 7) b mX8_readLaw [vR (some 0)] h Q
theorem rl_135 {n v : Int} {g : AH} {ox : Option Vl} (L : LxOK X) (hn : 0 ≤ n ∧ n < 12) (M : MC X h i p) (hi : 1 ≤ i) (e21 : gi h 0 21 = n + 1) (F : FrR g h) (E : Ext (codeH g) (codeH h)) (ev : gi h 10 (8 * n) = v) (ef : ∀ k, ¬ (8 * n ≤ k ∧ k < 8 * n + 8) → gi h 10 k = gi g 10 k)
    (R : match ox with | none => gi h 10 (8 * n + 3) = gi h 0 23 | some x => 0 ≤ gi h 10 (8 * n + 3) ∧ MM (fiX 0) (mX 0) (gi h 11) (gi h 12) (gi h 10 (8 * n + 3)) (gi h 0 23) x)
    (K : ∀ h', MC X h' i p → gi h' 0 21 = n + 1 → FrR g h' → Ext (codeH g) (codeH h') → gi h' 10 (8 * n) = v → RgM 0 (codeH h') (gi h' 10) (8 * n + 3) ox → gi h' 10 (8 * n + 5) = gi h' 0 23 → (∀ k, ¬ (8 * n ≤ k ∧ k < 8 * n + 8) → gi h' 10 k = gi g 10 k) → Lp_X8_readLaw_159 d b Q (8 * n) h') : Lp_X8_readLaw_135 d b Q (8 * n) h := by
  have l1 := L.m1
  have t1 := M.2.1.1
  have k1 := M.2.2.2.2.1
  refine l_X8_readLaw_135 ⟨by omega, by omega, fun h1 z1 => ⟨by omega, by omega, fun h2 z2 => ?_⟩⟩
  subst z2 z1
  have c2 : codeH (si (si h 10 (8 * n + 4) (gi h 0 23)) 10 (8 * n + 5) (gi h 0 23)) = codeH h := by rw [code_si10 (by omega), code_si10 (by omega)]
  refine K _ ((M.wr (Or.inl rfl)).wr (Or.inl rfl)) ((gi_no (by decide)).trans ((gi_no (by decide)).trans e21)) ((F.si (Or.inl rfl)).si (Or.inl rfl)) (c2 ▸ E) ?_ ?_ ?_ (fun k hk => ?_)
  · rw [gi_nk (by omega), gi_nk (by omega)]; exact ev
  · rw [c2]
    have a3 : gi (si (si h 10 (8 * n + 4) (gi h 0 23)) 10 (8 * n + 5) (gi h 0 23)) 10 (8 * n + 3) = gi h 10 (8 * n + 3) := by rw [gi_nk (by omega), gi_nk (by omega)]
    have a4 : gi (si (si h 10 (8 * n + 4) (gi h 0 23)) 10 (8 * n + 5) (gi h 0 23)) 10 (8 * n + 3 + 1) = gi h 0 23 := by rw [gi_nk (by omega), show 8 * n + 3 + 1 = 8 * n + 4 by omega, gi_eq]
    match ox, R with
    | none, R =>
      show gi _ 10 (8 * n + 3 + 1) = gi _ 10 (8 * n + 3)
      rw [a3, a4]
      exact R.symm
    | some x, R =>
      show 0 ≤ gi _ 10 (8 * n + 3) ∧ gi _ 10 (8 * n + 3 + 1) ≤ _ ∧ _ ∧ MM _ _ _ _ (gi _ 10 (8 * n + 3)) (gi _ 10 (8 * n + 3 + 1)) x
      rw [a3, a4]
      exact ⟨R.1, Int.le_refl _, by show gi h 0 23 < 400; omega, R.2⟩
  · rw [gi_eq, gi_no (by decide), gi_no (by decide)]
  · rw [gi_nk (by omega), gi_nk (by omega)]
    exact ef k hk
theorem Cl1.sum {n i1 p1 : Int} (L : LxOK X) (hm : X.mode = 0) (hn : 0 ≤ n ∧ n < 12) (hi0 : 0 ≤ i) (hv : 273 ≤ X.c i ∧ X.c i ≤ 274) (H : ToS X 5 5 0 (i + 1) p i1 p1 x) (hb : bop (X.c i1) = -1) (hi : i + 1 < i1) : Cl1 X i p n i1 p1 (X.c i - 273) (some x) := by
  intro d b Q h M e21 K
  refine rl_start L M e21 hn (by omega) (fun h2 D => ⟨fun z => by omega, fun _ => ?_⟩)
  obtain ⟨d1, d2, d3, d4, d5, d6, d7⟩ := D
  refine rdSum L d1 (by omega) H hb (fun h3 M3 F3 E3 V3 => ⟨rfl, ?_⟩)
  have g10 : ∀ k, gi h3 10 k = gi h2 10 k := fun k => F3.1 _ _ (by omega)
  have e23 : gi h2 0 23 = gi h 0 23 := congrArg (fun C : Cd => C.2.2) d4
  refine rl_135 (ox := some x) L hn M3 (by omega) ((F3.1 _ _ (by omega)).trans d2) (d3.trans F3.r) (d4 ▸ E3) ((g10 _).trans d5) (fun k hk => (g10 k).trans (d7 k hk)) ?_ K
  rw [g10, d6]
  rw [e23, hm] at V3
  exact ⟨V3.1, V3⟩
theorem Cl1.no {n : Int} (L : LxOK X) (hn : 0 ≤ n ∧ n < 12) (hi0 : 0 ≤ i) (hv : 275 ≤ X.c i ∧ X.c i ≤ 276) : Cl1 X i p n (i + 1) p (X.c i - 273) none := by
  intro d b Q h M e21 K
  refine rl_start L M e21 hn (by omega) (fun h2 D => ⟨fun _ => ?_, fun z => by omega⟩)
  obtain ⟨d1, d2, d3, d4, d5, d6, d7⟩ := D
  have e23 : gi h2 0 23 = gi h 0 23 := congrArg (fun C : Cd => C.2.2) d4
  exact rl_135 (ox := none) L hn d1 (by omega) d2 d3 (d4 ▸ Ext.rfl') d5 d7 (d6.trans e23.symm) K
theorem FaL.at0 {n : Int} (hv : ¬ (273 ≤ X.c i ∧ X.c i ≤ 276) ∨ 12 ≤ n) : FaL X i p n i := fun d b Q h M e21 K => rl_fail0 M e21 hv K
theorem FaL.sum {n j : Int} (L : LxOK X) (hn : 0 ≤ n ∧ n < 12) (hi0 : 0 ≤ i) (hv : 273 ≤ X.c i ∧ X.c i ≤ 274) (H : ToF X 5 0 (i + 1) p j) : FaL X i p n j := by
  intro d b Q h M e21 K
  refine rl_start L M e21 hn (by omega) (fun h2 D => ⟨fun z => by omega, fun _ => ?_⟩)
  obtain ⟨d1, d2, d3, d4, d5, d6, d7⟩ := D
  exact rdSumF L d1 (by omega) H (fun h3 F3 e1 e2 => ⟨rfl, rl_135b hn e1 e2 (d3.trans F3.r) K⟩)
theorem ToL.no {n i1 p1 v : Int} {ox : Option Vl} (hn : 0 ≤ n ∧ n < 12) (hv : (0 ≤ v ∧ v ≤ 3) ∧ Hvo v ox) (H : Cl1 X i p n i1 p1 v ox) (hc : X.c i1 ≠ 284) : ToL X i p n i1 p1 (v, ox, none, 1, none) := by
  intro d b Q h M e21 K
  refine H d b Q h M e21 (fun h1 M1 f21 F1 E1 ev R e5 ef => ?_)
  refine l_X8_readLaw_159 ⟨fun _ => ⟨fun z => absurd ((M1.2.1.2.2.2.wd 26 (by decide)).mp z) hc, fun _ => ?_⟩, fun z => absurd M1.1 z⟩
  refine l_X8_readLaw_185 ⟨by omega, by omega, fun h2 e2 => ?_⟩
  subst e2
  have c2 : codeH (si h1 10 (8 * n + 6) (gi h1 0 23)) = codeH h1 := code_si10 (by omega)
  have l0 : ∀ k, k ≠ 8 * n + 6 → gi (si h1 10 (8 * n + 6) (gi h1 0 23)) 10 k = gi h1 10 k := fun k hk => gi_nk hk
  refine K _ (M1.wr (Or.inl rfl)) ((gi_no (by decide)).trans f21) (F1.si (Or.inl rfl)) (c2 ▸ E1) ⟨(l0 _ (by omega)).trans ev, hv, ?_, ?_⟩ (fun k hk => (l0 k (by omega)).trans (ef k hk))
  · rw [c2]
    match ox, R with
    | none, R => exact (l0 _ (by omega)).trans (R.trans (l0 _ (by omega)).symm)
    | some x, R => exact R.ext Ext.rfl' R.2.2.1 (l0 _ (by omega)) (l0 _ (by omega))
  · show gi _ 10 (8 * n + 5 + 1) = gi _ 10 (8 * n + 5)
    rw [show 8 * n + 5 + 1 = 8 * n + 6 by omega, gi_eq, l0 _ (by omega), e5]
theorem ToL.tst {n i1 p1 i2 p2 v : Int} {ox : Option Vl} (L : LxOK X) (hm : X.mode = 0) (hn : 0 ≤ n ∧ n < 12) (hv : (0 ≤ v ∧ v ≤ 3) ∧ Hvo v ox) (H : Cl1 X i p n i1 p1 v ox) (hc : X.c i1 = 284) (H2 : ToS X 1 1 0 (i1 + 1) p1 i2 p2 x) (hb : X.c i2 ≠ 286 ∧ X.c i2 ≠ 285) : ToL X i p n i2 p2 (v, ox, none, 1, some x) := by
  intro d b Q h M e21 K
  refine H d b Q h M e21 (fun h1 M1 f21 F1 E1 ev R e5 ef => ?_)
  have t1 := M1.2.1.1
  refine l_X8_readLaw_159 ⟨fun _ => ⟨fun _ => M1.next L (by omega) (fun h2 F2 M2 => ⟨rfl, ?_⟩), fun z => absurd ((M1.2.1.2.2.2.wd 26 (by decide)).mpr hc) z⟩, fun z => absurd M1.1 z⟩
  refine rdTst L M2 (by omega) H2 hb (fun h3 M3 F3 E3 V3 => ⟨rfl, ?_⟩)
  have l1 := L.m1
  have t3 := M3.2.1.1
  have k3 := M3.2.2.2.2.1
  refine l_X8_readLaw_185 ⟨by omega, by omega, fun h4 e4 => ?_⟩
  subst e4
  have c4 : codeH (si h3 10 (8 * n + 6) (gi h3 0 23)) = codeH h3 := code_si10 (by omega)
  have g10 : ∀ k, gi h3 10 k = gi h1 10 k := fun k => (F3.1 _ _ (by omega)).trans (F2.1 _ _ (by omega))
  have l0 : ∀ k, k ≠ 8 * n + 6 → gi (si h3 10 (8 * n + 6) (gi h3 0 23)) 10 k = gi h1 10 k := fun k hk => (gi_nk hk).trans (g10 k)
  have E13 : Ext (codeH h1) (codeH h3) := by
    rw [← F2.code]
    exact E3
  have e23 : gi h2 0 23 = gi h1 0 23 := F2.1 _ _ (by omega)
  refine K _ (M3.wr (Or.inl rfl)) ((gi_no (by decide)).trans ((F3.1 _ _ (by omega)).trans ((F2.1 _ _ (by omega)).trans f21))) (((F1.trans F2.p.r).trans F3.r).si (Or.inl rfl)) (c4 ▸ E1.trans E13) ⟨(l0 _ (by omega)).trans ev, hv, ?_, ?_⟩ (fun k hk => (l0 k (by omega)).trans (ef k hk))
  · rw [c4]
    exact R.ext E13 (by show gi h3 0 23 < 400; omega) (l0 _ (by omega)) (l0 _ (by omega))
  · rw [c4]
    show 0 ≤ gi _ 10 (8 * n + 5) ∧ gi _ 10 (8 * n + 5 + 1) ≤ _ ∧ _ ∧ MM _ _ _ _ (gi _ 10 (8 * n + 5)) (gi _ 10 (8 * n + 5 + 1)) x
    rw [show 8 * n + 5 + 1 = 8 * n + 6 by omega, gi_eq, l0 _ (by omega), e5]
    rw [e23, hm] at V3
    exact ⟨V3.1, Int.le_refl _, by show gi h3 0 23 < 400; omega, V3⟩
theorem FaL.tst {n i1 p1 v j : Int} {ox : Option Vl} (L : LxOK X) (hn : 0 ≤ n ∧ n < 12) (H : Cl1 X i p n i1 p1 v ox) (hc : X.c i1 = 284) (H2 : ToF X 1 0 (i1 + 1) p1 j) : FaL X i p n j := by
  intro d b Q h M e21 K
  refine H d b Q h M e21 (fun h1 M1 f21 F1 E1 ev R e5 ef => ?_)
  have t1 := M1.2.1.1
  refine l_X8_readLaw_159 ⟨fun _ => ⟨fun _ => M1.next L (by omega) (fun h2 F2 M2 => ⟨rfl, ?_⟩), fun z => absurd ((M1.2.1.2.2.2.wd 26 (by decide)).mpr hc) z⟩, fun z => absurd M1.1 z⟩
  refine rdTstF L M2 (by omega) H2 (fun h3 F3 e1 e2 => ⟨rfl, ?_⟩)
  refine l_X8_readLaw_185 ⟨by omega, by omega, fun h4 e4 => ?_⟩
  subst e4
  exact K _ (((F1.trans F2.p.r).trans F3.r).si (Or.inl rfl)) ((gi_no (by decide)).trans e1) ((gi_no (by decide)).trans e2)
end EXPR
