/-! the class reads a clause -/
def XFc (a h : AH) : Prop := (∀ q x, ¬ (q = 36 ∨ q = 37 ∨ (q = 31 ∧ (x = 4 ∨ x = 5 ∨ x = 6)) ∨ (q = 35 ∧ (x = 0 ∨ x = 2))) → gi h q x = gi a q x) ∧ rf h = rf a ∧ kd h = kd a ∧ hn h = hn a ∧ gl h = gl a
theorem XFc.rfl' {a : AH} : XFc a a := ⟨fun _ _ _ => rfl, rfl, rfl, rfl, rfl⟩
theorem XFc.trans {a b c : AH} (x : XFc a b) (y : XFc b c) : XFc a c := ⟨fun q k z => (y.1 q k z).trans (x.1 q k z), y.2.1.trans x.2.1, y.2.2.1.trans x.2.2.1, y.2.2.2.1.trans x.2.2.2.1, y.2.2.2.2.trans x.2.2.2.2⟩
theorem XFr.c {a b : AH} (x : XFr a b) : XFc a b := ⟨fun q k z => x.1 q k (by omega), x.2⟩
theorem XFc.si {a b : AH} (x : XFc a b) {q : Nat} {i v : Int} (h : q = 36 ∨ q = 37 ∨ (q = 31 ∧ (i = 4 ∨ i = 5 ∨ i = 6)) ∨ (q = 35 ∧ (i = 0 ∨ i = 2))) : XFc a (si b q i v) := x.trans ⟨fun q' k z => by rw [gi_si, if_neg (fun e => z (by rw [e.1, e.2]; exact h))], rfl, rfl, rfl, rfl⟩
theorem XA.fc {X : Txt} {z : Int} {a h : AH} (A : XA X z a) (F : XFc a h) : XA X z h := ⟨(F.1 _ _ (by omega)).trans A.1, fun i i0 i1 => ⟨(F.1 _ _ (by omega)).trans (A.2.1 i i0 i1).1, (F.1 _ _ (by omega)).trans (A.2.1 i i0 i1).2⟩, (F.1 _ _ (by omega)).trans A.2.2.1, A.2.2.2⟩
theorem XP.self {X : Txt} {z : Int} {a h : AH} {i p ln : Int} (H : XP X z a h i p ln) : XP X z h h i p ln := by
  obtain ⟨h1, h2, h3, h4, h5, h6, h7, h8, h9⟩ := H
  exact ⟨h1, h2, h3, h4, h5, h6, h7, XFr.rfl', h9.fc h8.c⟩
theorem XP.hd {X : Txt} {z : Int} {h : AH} {i p ln k v : Int} {q : Nat} (H : XP X z h h i p ln) (hq : q = 36 ∨ (q = 35 ∧ k = 0)) : XP X z (si h q k v) (si h q k v) i p ln := by
  obtain ⟨h1, h2, h3, h4, h5, h6, h7, h8, h9⟩ := H
  have e : ∀ z : Int, gi (si h q k v) 31 z = gi h 31 z := fun z => gi_no (by omega)
  exact ⟨(e 4).trans h1, (e 5).trans h2, (e 6).trans h3, by rw [gi_si, if_neg (fun y => by omega)]; exact h4, h5, h6, h7, XFr.rfl', h9.fc (XFc.rfl'.si (by omega))⟩
/-- steps from f on mean x, behind them stands the end -/
def SegX (mode : Int) (s : Int → Int) (len f : Int) (x : Vl) : Prop := ∃ g D, XS (mX mode) s f g D x ∧ D ≤ 50 ∧ s g = 0 ∧ s (g + 1) = 0 ∧ g + 2 ≤ len
def StX (mode : Int) (s : Int → Int) (len v : Int) (o : Option Vl) (tt : Vl → Prop) : Prop := match o with
  | none => v = -1
  | some x => (0 ≤ v ∧ v % 2 = 0) ∧ SegX mode s len v x ∧ tt x
theorem SegX.ext {mode : Int} {s s' : Int → Int} {len len' f : Int} {x : Vl} (H : SegX mode s len f x) (e : ∀ k, k < len → s' k = s k) (hl : len ≤ len') : SegX mode s' len' f x := by
  obtain ⟨g, D, h1, h2, h3, h4, h5⟩ := H
  exact ⟨g, D, h1.congr (fun k _ k1 => e k (by omega)), h2, (e g (by omega)).trans h3, (e (g + 1) (by omega)).trans h4, by omega⟩
theorem StX.ext {mode : Int} {s s' : Int → Int} {len len' v v' : Int} {o : Option Vl} {tt : Vl → Prop} (H : StX mode s len v o tt) (e : ∀ k, k < len → s' k = s k) (hl : len ≤ len') (hv : v' = v) : StX mode s' len' v' o tt := by
  subst hv
  match o, H with
  | none, H => exact H
  | some x, H => exact ⟨H.1, H.2.1.ext e hl, H.2.2⟩
def ClX (mode : Int) (hd s : Int → Int) (len n : Int) (r : Rec) : Prop := hd (5 * n) = r.1 ∧ StX mode s len (hd (5 * n + 1)) r.2.1 (VB (mX mode)) ∧ StX mode s len (hd (5 * n + 2)) r.2.2.1 (VB (mX mode)) ∧ hd (5 * n + 3) = r.2.2.2.1 ∧ StX mode s len (hd (5 * n + 4)) r.2.2.2.2 (T01 (mX mode))
theorem ClX.ext {mode : Int} {hd hd' s s' : Int → Int} {len len' n : Int} {r : Rec} (H : ClX mode hd s len n r) (e : ∀ k, k < len → s' k = s k) (hl : len ≤ len') (eh : ∀ k, 0 ≤ k → k < 5 → hd' (5 * n + k) = hd (5 * n + k)) : ClX mode hd' s' len' n r := by
  have e0 := eh 0 (by decide) (by decide)
  rw [Int.add_zero] at e0
  exact ⟨e0.trans H.1, H.2.1.ext e hl (eh 1 (by decide) (by decide)), H.2.2.1.ext e hl (eh 2 (by decide) (by decide)), (eh 3 (by decide) (by decide)).trans H.2.2.2.1, H.2.2.2.2.ext e hl (eh 4 (by decide) (by decide))⟩
theorem WfR.put {m : Int} {s s' : Int → Int} {f g : Int} (w : WfR m s 0 f) (e : ∀ k, k < f → s' k = s k) (x : WfR m s' f g) (hf : f % 2 = 0 ∧ g % 2 = 0) (h0 : s' g = 0) (h1 : s' (g + 1) = 0) : WfR m s' 0 (g + 2) := by
  intro i i0 i1
  by_cases c : 2 * i + 1 < f
  · rw [e _ c, e _ (by omega)]
    exact w i i0 c
  · by_cases c2 : 2 * i + 1 < g
    · exact x i (by omega) c2
    · have : 2 * i = g := by omega
      rw [this, h0, h1]
      omega
/-- steps below stay; all steps are in order, if those below were -/
def KpW (X : Txt) (h h' : AH) (ln ln' : Int) : Prop := (∀ k, k < ln → gi h' 37 k = gi h 37 k) ∧ (WfR (mX X.mode) (gi h 37) 0 ln → WfR (mX X.mode) (gi h' 37) 0 ln')
def OkO (mode : Int) (r : Rec) : Prop := mode = 1 → (0 ≤ r.1 ∧ r.1 ≤ 4) ∧ (1 ≤ r.2.2.2.1 ∧ r.2.2.2.1 ≤ 20)
def To (X : Txt) (i p n i' p' : Int) (r : Rec) : Prop := (X.mode = 0 → ToL X i p n i' p' r) ∧ (X.mode = 1 → ToO X i p n i' p' r) ∧ OkO X.mode r
def Fa (X : Txt) (i p n j : Int) : Prop := (X.mode = 0 → FaL X i p n j) ∧ (X.mode = 1 → FaO X i p n j)
section XCL
variable {X : Txt} {e b : Nat} {Q : Option AV → AH → Prop} {h : AH} {i p ln n : Int}
theorem tel_eq {w v : Int} (hn : gi h 35 0 = n + 1) (hr : 0 ≤ n ∧ n < 12) (hw : 0 ≤ w ∧ w ≤ 4) : telX h w v = si h 36 (5 * n + w) v := by
  unfold telX
  rw [hn, if_pos (by omega), show (n + 1 - 1) * 5 + w = 5 * n + w by omega]
/-- a sum of a clause -/
theorem x_sumOf {w : Int} (hw : 1 ≤ w ∧ w ≤ 2) (H : XP X 0 h h i p ln) (e35 : gi h 35 0 = n + 1) (hn : 0 ≤ n ∧ n < 12) (hl : ln + 2 ≤ 2 * i)
    (kO : ∀ h' i' p' ln' x, XP X 0 h' h' i' p' ln' → XFc h h' → i < i' → p < p' → ln < ln' → gi h' 35 0 = n + 1 → gi h' 36 = up1 (gi h 36) (5 * n + w) ln → KpW X h h' ln ln' → SegX X.mode (gi h' 37) ln' ln x → VB (mX X.mode) x → ToS X 5 5 0 i p i' p' x → bop (X.c i') = -1 → Q (some (vI 1)) h')
    (kN : ∀ h', XFc h h' → (0 ≤ gi h' 31 4 ∧ gi h' 31 4 < X.m) → (0 ≤ gi h' 35 2 ∧ gi h' 35 2 ≤ 872) → ToF X 5 0 i p (gi h' 31 4) → Q (some (vI 0)) h') : WM GX (28 + e) b mX3_sumOf [vR (some 31), vI w] h Q := by
  have e2 := H.2.2.2.1
  refine WM_d (show 26 + e + 2 = 28 + e by omega) (w_X3_sumOf ⟨by omega, fun h1 e1 => ?_⟩)
  rw [tel_eq e35 hn (by omega), e2] at e1
  subst e1
  have H1 := H.hd (k := 5 * n + w) (v := ln) (q := 36) (Or.inl rfl)
  have S := (x_all (X := X) (z := 0) (h0 := si h 36 (5 * n + w) ln) 8 0 rfl (Int.le_refl _)).1 e 0
  refine WM_d (show 3 * 8 + 3 + e = 26 + e + 1 by omega) (S _ _ i p ln H1 (fun h2 i2 p2 ln2 x R st _ => ⟨1, rfl, R.1.preL, fun h3 e3 => ⟨Or.inr rfl, ?_⟩⟩) (fun h2 R => ⟨0, rfl, R.2.2.1, fun h3 e3 => ⟨Or.inl rfl, ?_⟩⟩))
  · subst e3
    obtain ⟨R1, R2, R3, R4, R5, R6⟩ := R
    have A := R1.add 0 0 (by omega)
    have pb := R1.2.2.2.2.2.1
    have pa := H.2.2.2.2.2.1
    have F := A.1.2.2.2.2.2.2.2.1
    have f36 : gi (addX h2 0 0) 36 = up1 (gi h 36) (5 * n + w) ln := by
      funext k
      rw [F.1 36 k (by omega), giF_eq]
    refine kO _ i2 p2 (ln2 + 2) x A.1.self ((XFc.rfl'.si (Or.inl rfl)).trans F.c) R2.1 R2.2.1 (by omega) ((F.1 _ _ (by omega)).trans ((gi_no (by decide)).trans e35)) f36 ⟨fun k hk => ?_, fun w => WfR.put w (fun k hk => ?_) (R4.congr (s' := gi (addX h2 0 0) 37) (fun k k0 k1 => A.2.1 k k1)).2.1 ⟨H.2.2.2.2.2.2.1.2.1, R1.2.2.2.2.2.2.1.2.1⟩ A.2.2.1 A.2.2.2⟩ ⟨ln2, p2 - p, R4.congr (fun k k0 k1 => A.2.1 k k1), by omega, A.2.2.1, A.2.2.2, Int.le_refl _⟩ R5 R6 st
    all_goals rw [A.2.1 k (by omega), R3 k hk, gi_no (by decide)]
  · subst e3
    have N := R.add (s := 0) (v := 0)
    exact kN _ ((XFc.rfl'.si (Or.inl rfl)).trans N.1.c) N.2.1 N.2.2.1 N.2.2.2
/-- the class within a clause -/
def StC (X : Txt) (h h' : AH) (n i p ln ln0 v f1 f2 t : Int) : Prop := XP X 0 h' h' i p ln ∧ XFc h h' ∧ gi h' 35 0 = n + 1 ∧ (gi h' 36 (5 * n) = v ∧ gi h' 36 (5 * n + 1) = f1 ∧ gi h' 36 (5 * n + 2) = f2 ∧ gi h' 36 (5 * n + 3) = t ∧ gi h' 36 (5 * n + 4) = -1) ∧ (∀ k, k < 5 * n → gi h' 36 k = gi h 36 k) ∧ KpW X h h' ln0 ln ∧ ln0 ≤ ln
def St1 (X : Txt) (i p n i1 p1 v : Int) (o1 : Option Vl) : Prop := (X.mode = 0 → Cl1 X i p n i1 p1 v o1 ∧ Hvo v o1) ∧ (X.mode = 1 → Or1 X i p n i1 p1 v o1)
def St2 (X : Txt) (i p n i1 p1 v : Int) (o1 o2 : Option Vl) : Prop := (X.mode = 0 → (Cl1 X i p n i1 p1 v o1 ∧ Hvo v o1) ∧ o2 = none) ∧ (X.mode = 1 → Or2 X i p n i1 p1 v o1 o2)
def St3 (X : Txt) (i p n i1 p1 v : Int) (o1 o2 : Option Vl) (t : Int) : Prop := (X.mode = 0 → (Cl1 X i p n i1 p1 v o1 ∧ Hvo v o1) ∧ o2 = none ∧ t = 1) ∧ (X.mode = 1 → Or3 X i p n i1 p1 v o1 o2 t)
def KO (X : Txt) (Q : Option AV → AH → Prop) (h : AH) (i p ln n : Int) : Prop := ∀ h' i' p' ln' r, XP X 0 h' h' i' p' ln' → XFc h h' → i < i' → gi h' 35 0 = n + 1 → ClX X.mode (gi h' 36) (gi h' 37) ln' n r → (∀ k, k < 5 * n → gi h' 36 k = gi h 36 k) → KpW X h h' ln ln' → ln ≤ ln' → To X i p n i' p' r → Q (some (vI 1)) h'
def KN (X : Txt) (Q : Option AV → AH → Prop) (h : AH) (i p n : Int) : Prop := ∀ h', XFc h h' → (0 ≤ gi h' 31 4 ∧ gi h' 31 4 < X.m) → Fa X i p n (gi h' 31 4) → Q (some (vI 0)) h'
theorem KN.at {h' : AH} {j q ln' : Int} (K : KN X Q h i p n) (H : XP X 0 h' h' j q ln') (F : XFc h h') (f : Fa X i p n j) : Q (some (vI 0)) h' := K h' F (by rw [H.1]; exact H.2.2.2.2.1) (by rw [H.1]; exact f)
theorem lp209 {h' : AH} {i1 p1 ln1 v f1 f2 t : Int} {o1 o2 : Option Vl} (S : StC X h h' n i1 p1 ln1 ln v f1 f2 t) (hn : 0 ≤ n ∧ n < 12) (hi : i < i1) (hv : 0 ≤ v ∧ v ≤ 4 ∧ (X.mode = 0 → v ≤ 3)) (ht : 1 ≤ t ∧ t ≤ 20)
    (x1 : StX X.mode (gi h' 37) ln1 f1 o1 (VB (mX X.mode))) (x2 : StX X.mode (gi h' 37) ln1 f2 o2 (VB (mX X.mode))) (T : St3 X i p n i1 p1 v o1 o2 t)
    (kO : KO X Q h i p ln n) (kN : KN X Q h i p n) : Lp_X3_clause_209 (28 + e) b Q h' := by
  obtain ⟨s1, s2, s3, ⟨s4, s5, s6, s7, s8⟩, s9, s10, s11⟩ := S
  have L := s1.L
  have md := s1.md
  have hi1 := s1.2.2.2.2.1
  have cR := L.c_R hi1
  refine l_X3_clause_209 ?_
  rw [s1.2.1]
  refine ⟨by omega, fun c => ⟨s1.pre, fun h1 z1 => ?_⟩, fun c => ?_⟩
  · subst z1
    have A := s1.adv (by omega)
    have A1 := A.1.self
    have F1 := A.1.2.2.2.2.2.2.2.1
    have g36 : ∀ k, gi (advX h') 36 k = gi h' 36 k := fun k => F1.1 _ _ (by omega)
    have f35 : gi (advX h') 35 0 = n + 1 := (F1.1 _ _ (by omega)).trans s3
    refine ⟨by omega, fun h2 z2 => ?_⟩
    rw [tel_eq f35 hn (by decide), A1.2.2.2.1] at z2
    subst z2
    have H2 := A1.hd (k := 5 * n + 4) (v := ln1) (q := 36) (Or.inl rfl)
    have S := (x_all (X := X) (z := 0) (h0 := si (advX h') 36 (5 * n + 4) ln1) 8 0 rfl (Int.le_refl _)).2 e 0
    have l2 := s1.2.2.2.2.2.2.1
    refine WM_d (show 3 * 8 + 6 + e = 28 + e + 2 by omega) (S _ _ (i1 + 1) p1 ln1 H2 (fun h3 i3 p3 ln3 x R st tt => ⟨1, rfl, R.1.preL, fun h4 e4 => ⟨Or.inr rfl, ?_⟩⟩) (fun h3 R => ⟨0, rfl, R.2.2.1, fun h4 e4 => ⟨Or.inl rfl, ?_⟩⟩))
    · subst e4
      obtain ⟨R1, R2, R3, R4, R5, R6⟩ := R
      have B := R1.add 0 0 (by omega)
      have pb := R1.2.2.2.2.2.1
      have pa := s1.2.2.2.2.2.1
      have F := B.1.2.2.2.2.2.2.2.1
      have f36 : ∀ k, gi (addX h3 0 0) 36 k = up1 (gi h' 36) (5 * n + 4) ln1 k := fun k => by
        rw [F.1 36 k (by omega), giF_eq]
        unfold up1
        split
        · rfl
        · exact g36 k
      have g37 : ∀ k, k < ln1 → gi (addX h3 0 0) 37 k = gi h' 37 k := fun k hk => by rw [B.2.1 k (by omega), R3 k hk, gi_no (by decide), A.2]
      refine kO _ i3 p3 (ln3 + 2) (v, o1, o2, t, some x) B.1.self ((s2.trans F1.c).trans ((XFc.rfl'.si (Or.inl rfl)).trans F.c)) (by omega) ((F.1 _ _ (by omega)).trans ((gi_no (by decide)).trans f35)) ⟨?_, x1.ext g37 (by omega) ?_, x2.ext g37 (by omega) ?_, ?_, ?_, ?_⟩ (fun k hk => ?_) ⟨fun k hk => (g37 k (by omega)).trans (s10.1 k hk), fun w => WfR.put (s10.2 w) g37 (R4.congr (s' := gi (addX h3 0 0) 37) (fun k k0 k1 => B.2.1 k k1)).2.1 ⟨l2.2.1, R1.2.2.2.2.2.2.1.2.1⟩ B.2.2.1 B.2.2.2⟩ (by omega) ⟨fun m => ?_, fun m => ?_, fun _ => ⟨⟨hv.1, hv.2.1⟩, ht⟩⟩
      · rw [f36, up1_ne (by omega)]; exact s4
      · rw [f36, up1_ne (by omega)]; exact s5
      · rw [f36, up1_ne (by omega)]; exact s6
      · rw [f36, up1_ne (by omega)]; exact s7
      · rw [f36, up1_eq]
        exact ⟨l2.1, l2.2.1⟩
      · rw [f36, up1_eq]
        exact ⟨⟨ln3, p3 - p1, R4.congr (fun k k0 k1 => B.2.1 k k1), by omega, B.2.2.1, B.2.2.2, Int.le_refl _⟩, tt⟩
      · rw [f36, up1_ne (by omega)]; exact s9 k hk
      · obtain ⟨t1, t2, t3⟩ := T.1 m
        subst t2 t3
        exact ToL.tst L m hn ⟨⟨hv.1, hv.2.2 m⟩, t1.2⟩ t1.1 (by omega) R6 st
      · exact ToO.tst L m hn ⟨hv.1, hv.2.1⟩ ht (T.2 m) (by omega) R6 st
    · subst e4
      have N := R.add (s := 0) (v := 0)
      refine kN _ ((s2.trans F1.c).trans ((XFc.rfl'.si (Or.inl rfl)).trans N.1.c)) N.2.1 ⟨fun m => ?_, fun m => ?_⟩
      · exact FaL.tst L hn (T.1 m).1.1 (by omega) N.2.2.2
      · exact FaO.tst L hn (T.2 m) (by omega) N.2.2.2
  · refine kO h' i1 p1 ln1 (v, o1, o2, t, none) s1 s2 hi s3 ⟨s4, s5 ▸ x1, s6 ▸ x2, s7, s8⟩ s9 s10 s11 ⟨fun m => ?_, fun m => ?_, fun _ => ⟨⟨hv.1, hv.2.1⟩, ht⟩⟩
    · obtain ⟨t1, t2, t3⟩ := T.1 m
      subst t2 t3
      exact ToL.no hn ⟨⟨hv.1, hv.2.2 m⟩, t1.2⟩ t1.1 (by omega)
    · exact ToO.no hn ⟨hv.1, hv.2.1⟩ ht (T.2 m) (by omega)
theorem lp157 {h' : AH} {i1 p1 ln1 v f1 f2 : Int} {o1 o2 : Option Vl} (S : StC X h h' n i1 p1 ln1 ln v f1 f2 1) (hn : 0 ≤ n ∧ n < 12) (hi : i < i1) (hv : 0 ≤ v ∧ v ≤ 4 ∧ (X.mode = 0 → v ≤ 3))
    (x1 : StX X.mode (gi h' 37) ln1 f1 o1 (VB (mX X.mode))) (x2 : StX X.mode (gi h' 37) ln1 f2 o2 (VB (mX X.mode))) (T : St2 X i p n i1 p1 v o1 o2)
    (kO : KO X Q h i p ln n) (kN : KN X Q h i p n) : Lp_X3_clause_157 (28 + e) b Q h' := by
  have S' := S
  obtain ⟨s1, s2, s3, ⟨s4, s5, s6, s7, s8⟩, s9, s10, s11⟩ := S'
  have L := s1.L
  have md := s1.md
  have hi1 := s1.2.2.2.2.1
  have cR := L.c_R hi1
  have e7 : gi h' 31 7 = X.mode := s1.2.2.2.2.2.2.2.2.2.2.1
  refine l_X3_clause_157 ?_
  rw [s1.2.1, e7]
  refine ⟨fun m => lp209 S hn hi hv (by decide) x1 x2 ⟨fun _ => ⟨(T.1 m).1, (T.1 m).2, rfl⟩, fun y => by omega⟩ kO kN, fun m => ⟨by omega, fun c => ⟨s1.pre, fun h1 z1 => ?_⟩, fun c => ?_⟩⟩
  · have m1 : X.mode = 1 := by omega
    subst z1
    have A := s1.adv (by omega)
    have A1 := A.1.self
    have F1 := A.1.2.2.2.2.2.2.2.1
    have hi2 := A1.2.2.2.2.1
    refine ⟨by have := A1.pre; omega, ?_⟩
    have nf : nFrom (advX h') 1 20 = if X.c (i1 + 1) = 256 ∧ 1 ≤ X.v (i1 + 1) ∧ X.v (i1 + 1) ≤ 20 then X.v (i1 + 1) else -1 := by
      obtain ⟨a1, a2, a3, a4, a5, a6, a7, a8, a9⟩ := A1
      have ev : gi (advX h') 34 (i1 + 1) = X.v (i1 + 1) := (a9.2.1 _ a5.1 a5.2).2
      unfold nFrom
      rw [a1, a2, ev]
    rw [nf]
    by_cases cc : X.c (i1 + 1) = 256 ∧ 1 ≤ X.v (i1 + 1) ∧ X.v (i1 + 1) ≤ 20
    · rw [if_pos cc]
      have f35 : gi (advX h') 35 0 = n + 1 := (F1.1 _ _ (by omega)).trans s3
      refine ⟨fun y => by omega, fun _ => ⟨by omega, fun h2 z2 => ?_⟩⟩
      rw [tel_eq f35 hn (by decide)] at z2
      subst z2
      have H2 := A1.hd (k := 5 * n + 3) (v := X.v (i1 + 1)) (q := 36) (Or.inl rfl)
      have B := H2.adv (by omega)
      have F2 := B.1.2.2.2.2.2.2.2.1
      refine ⟨H2.pre, fun h3 z3 => ?_⟩
      subst z3
      have g36 : ∀ k, gi (advX (si (advX h') 36 (5 * n + 3) (X.v (i1 + 1)))) 36 k = up1 (gi h' 36) (5 * n + 3) (X.v (i1 + 1)) k := fun k => by
        rw [F2.1 36 k (by omega), giF_eq]
        unfold up1
        split
        · rfl
        · exact F1.1 _ _ (by omega)
      have g37 : ∀ k, gi (advX (si (advX h') 36 (5 * n + 3) (X.v (i1 + 1)))) 37 k = gi h' 37 k := fun k => by rw [B.2, gi_no (by decide), A.2]
      refine lp209 (i1 := i1 + 1 + 1) (p1 := p1) (ln1 := ln1) (v := v) (f1 := f1) (f2 := f2) (t := X.v (i1 + 1)) ⟨B.1.self, (s2.trans F1.c).trans ((XFc.rfl'.si (Or.inl rfl)).trans F2.c), (F2.1 _ _ (by omega)).trans ((gi_no (by decide)).trans f35), ⟨?_, ?_, ?_, ?_, ?_⟩, fun k hk => ?_, ⟨fun k hk => (g37 k).trans (s10.1 k hk), fun w => (funext g37 : gi (advX (si (advX h') 36 (5 * n + 3) (X.v (i1 + 1)))) 37 = gi h' 37) ▸ s10.2 w⟩, s11⟩ hn (by omega) hv cc.2 (x1.ext (fun k _ => g37 k) (Int.le_refl _) rfl) (x2.ext (fun k _ => g37 k) (Int.le_refl _) rfl) ⟨fun y => by omega, fun _ => ?_⟩ kO kN
      · rw [g36, up1_ne (by omega)]; exact s4
      · rw [g36, up1_ne (by omega)]; exact s5
      · rw [g36, up1_ne (by omega)]; exact s6
      · rw [g36, up1_eq]
      · rw [g36, up1_ne (by omega)]; exact s8
      · rw [g36, up1_ne (by omega)]; exact s9 k hk
      · rw [show i1 + 1 + 1 = i1 + 2 by omega]
        exact Or3.times L hn (T.2 m1) (by omega) cc.1 cc.2
    · rw [if_neg cc]
      refine ⟨fun _ => kN.at A1 (s2.trans F1.c) ⟨fun y => by omega, fun _ => FaO.times L hn (T.2 m1) (by omega) cc⟩, fun y => absurd rfl y⟩
  · have m1 : X.mode = 1 := by omega
    exact lp209 S hn hi hv (by decide) x1 x2 ⟨fun y => by omega, fun _ => Or3.no hn (T.2 m1) (by omega)⟩ kO kN
theorem lp101 {h' : AH} {i1 p1 ln1 v f1 : Int} {o1 : Option Vl} (S : StC X h h' n i1 p1 ln1 ln v f1 (-1) 1) (hn : 0 ≤ n ∧ n < 12) (hi : 0 ≤ i ∧ i < i1) (hv : 0 ≤ v ∧ v ≤ 4 ∧ (X.mode = 0 → v ≤ 3))
    (x1 : StX X.mode (gi h' 37) ln1 f1 o1 (VB (mX X.mode))) (T : St1 X i p n i1 p1 v o1)
    (kO : KO X Q h i p ln n) (kN : KN X Q h i p n) : Lp_X3_clause_101 (28 + e) b Q v h' := by
  have S' := S
  obtain ⟨s1, s2, s3, ⟨s4, s5, s6, s7, s8⟩, s9, s10, s11⟩ := S'
  have L := s1.L
  have md := s1.md
  have hi1 := s1.2.2.2.2.1
  have cR := L.c_R hi1
  have e7 : gi h' 31 7 = X.mode := s1.2.2.2.2.2.2.2.2.2.2.1
  have go : X.mode = 1 → ((v = 1 ∧ X.c i1 = 281) ∨ (v = 3 ∧ X.c i1 = 282)) → (0 ≤ gi h' 31 4 ∧ gi h' 31 4 ≤ 400 ∧ gi h' 31 3 ≤ 401) ∧ ∀ h1, h1 = advX h' → WM GX (28 + e + 2) 0 mX3_sumOf [vR (some 31), vI 2] h1 (fun r h2 => ∃ u, r = some (vI u) ∧ (u = 0 → Q (some (vI 0)) h2) ∧ (¬ (u = 0) → Lp_X3_clause_157 (28 + e) b Q h2)) := fun m1 cc => by
    refine ⟨s1.pre, fun h1 z1 => ?_⟩
    subst z1
    have A := s1.adv (by omega)
    have A1 := A.1.self
    have F1 := A.1.2.2.2.2.2.2.2.1
    have l2 := s1.2.2.2.2.2.2.1
    refine WM_d (show 28 + (e + 2) = 28 + e + 2 by omega) (x_sumOf (e := e + 2) (n := n) (by decide) A1 ((F1.1 _ _ (by omega)).trans s3) hn (by omega) (fun h2 i2 p2 ln2 x R1 R2 R3 R4 R5 R6 R7 R8 R9 R10 R11 R12 => ⟨1, rfl, fun y => by omega, fun _ => ?_⟩) (fun h2 R1 R2 R3 R4 => ⟨0, rfl, fun _ => ?_, fun y => absurd rfl y⟩))
    · have g36 : ∀ k, gi h2 36 k = up1 (gi h' 36) (5 * n + 2) ln1 k := fun k => by
        rw [R7]
        unfold up1
        split
        · rfl
        · exact F1.1 _ _ (by omega)
      have g37 : ∀ k, k < ln1 → gi h2 37 k = gi h' 37 k := fun k hk => by rw [R8.1 k hk, A.2]
      refine lp157 (i1 := i2) (p1 := p2) (ln1 := ln2) (v := v) (f1 := f1) (f2 := ln1) (o1 := o1) (o2 := some x) ⟨R1, (s2.trans F1.c).trans R2, R6, ⟨?_, ?_, ?_, ?_, ?_⟩, fun k hk => ?_, ⟨fun k hk => (g37 k (by omega)).trans (s10.1 k hk), fun w => R8.2 (A.2.symm ▸ s10.2 w)⟩, by omega⟩ hn (by omega) hv (x1.ext g37 (by omega) rfl) ⟨⟨l2.1, l2.2.1⟩, R9, R10⟩ ⟨fun y => by omega, fun _ => Or2.sum L m1 hn hi1.1 (T.2 m1) cc R11 R12⟩ kO kN
      · rw [g36, up1_ne (by omega)]; exact s4
      · rw [g36, up1_ne (by omega)]; exact s5
      · rw [g36, up1_eq]
      · rw [g36, up1_ne (by omega)]; exact s7
      · rw [g36, up1_ne (by omega)]; exact s8
      · rw [g36, up1_ne (by omega)]; exact s9 k hk
    · exact kN h2 ((s2.trans F1.c).trans R1) R2 ⟨fun y => by omega, fun _ => FaO.by1 L hn hi1.1 (T.2 m1) cc R4⟩
  have no : v ≠ 1 → v ≠ 3 → X.mode = 1 → Lp_X3_clause_157 (28 + e) b Q h' := fun v1 v3 m1 => lp157 (o2 := none) S hn hi.2 hv x1 rfl ⟨fun y => by omega, fun _ => Or2.no (T.2 m1) ⟨v1, v3⟩⟩ kO kN
  have bad : X.mode = 1 → ((v = 1 ∧ X.c i1 ≠ 281) ∨ (v = 3 ∧ X.c i1 ≠ 282)) → Q (some (vI 0)) h' := fun m1 cc => kN.at s1 s2 ⟨fun y => by omega, fun _ => FaO.by0 hn (T.2 m1) cc⟩
  refine l_X3_clause_101 ?_
  rw [s1.2.1, e7]
  refine ⟨fun m => lp157 (o2 := none) S hn hi.2 hv x1 rfl ⟨fun _ => ⟨T.1 m, rfl⟩, fun y => by omega⟩ kO kN, fun m => ⟨fun v1 => ⟨by omega, fun _ => ⟨fun c => go (by omega) (Or.inl ⟨v1, by omega⟩), fun c => bad (by omega) (Or.inl ⟨v1, by omega⟩)⟩, fun y => absurd v1 y⟩, fun v1 => ⟨fun v3 => ⟨by omega, fun y => absurd y v1, fun _ => ⟨fun c => go (by omega) (Or.inr ⟨v3, by omega⟩), fun c => bad (by omega) (Or.inr ⟨v3, by omega⟩)⟩⟩, fun v3 => no v1 v3 (by omega)⟩⟩⟩
theorem x_clause (H : XP X 0 h h i p ln) (e35 : gi h 35 0 = n) (hn : 0 ≤ n ∧ n < 12) (kO : KO X Q h i p ln n) (kN : KN X Q h i p n) : WM GX (31 + e) b mX3_clause [vR (some 31)] h Q := by
  have L := H.L
  have md := H.md
  have hi := H.2.2.2.2.1
  have cR := L.c_R hi
  have e7 : gi h 31 7 = X.mode := H.2.2.2.2.2.2.2.2.2.2.1
  have l2 := H.2.2.2.2.2.2.1
  obtain ⟨v, ev⟩ : ∃ v, (if X.mode = 0 then lVerb (X.c i - 258) else oVerb (X.c i - 258)) = v := ⟨_, rfl⟩
  have vL : X.mode = 0 → (v = -1 ∧ ¬ (273 ≤ X.c i ∧ X.c i ≤ 276)) ∨ (v = X.c i - 273 ∧ 273 ≤ X.c i ∧ X.c i ≤ 276) := fun m => by
    rw [if_pos m] at ev
    unfold lVerb at ev
    split at ev <;> omega
  have vO : X.mode = 1 → v = oVc (X.c i) := fun m => by
    rw [if_neg (by omega)] at ev
    exact ev.symm
  have R := oVc_R (X.c i)
  have main : Lp_X3_clause_33 (28 + e) b Q v h := by
    refine l_X3_clause_33 ⟨fun c => kN.at H XFc.rfl' ⟨fun m => FaL.at0 (by have := vL m; omega), fun m => FaO.at0 (by have := vO m; omega)⟩, fun c => ⟨H.pre, fun h1 z1 => ?_⟩⟩
    subst z1
    have hv : 0 ≤ v ∧ v ≤ 4 ∧ (X.mode = 0 → v ≤ 3) ∧ X.c i ≠ -1 := by
      rcases md with m | m
      · have := vL m
        omega
      · have := vO m
        omega
    have A := H.adv hv.2.2.2
    have F1 := A.1.2.2.2.2.2.2.2.1
    have f35 : gi (advX h) 35 0 = n := (F1.1 _ _ (by omega)).trans e35
    have A2 := A.1.self.hd (k := 0) (v := n + 1) (q := 35) (Or.inr ⟨rfl, rfl⟩)
    refine WM_d (show 28 + e + 1 + 1 = 28 + e + 2 by omega) (w_X5_begin ?_)
    rw [f35]
    refine ⟨by omega, fun h2 z2 => ?_⟩
    subst z2
    have e1 : gi (si (advX h) 35 0 (n + 1)) 35 0 = n + 1 := gi_eq
    refine ⟨by omega, fun h3 z3 => ?_⟩
    rw [tel_eq e1 hn (by decide)] at z3
    have e3 : gi h3 35 0 = n + 1 := by rw [z3, gi_no (by decide)]; exact e1
    refine ⟨by omega, fun h4 z4 => ?_⟩
    rw [tel_eq e3 hn (by decide)] at z4
    have e4 : gi h4 35 0 = n + 1 := by rw [z4, gi_no (by decide)]; exact e3
    refine ⟨by omega, fun h5 z5 => ?_⟩
    rw [tel_eq e4 hn (by decide)] at z5
    have e5 : gi h5 35 0 = n + 1 := by rw [z5, gi_no (by decide)]; exact e4
    refine ⟨by omega, fun h6 z6 => ?_⟩
    rw [tel_eq e5 hn (by decide)] at z6
    have e6 : gi h6 35 0 = n + 1 := by rw [z6, gi_no (by decide)]; exact e5
    refine ⟨by omega, fun h7 z7 => ⟨rfl, ?_⟩⟩
    rw [tel_eq e6 hn (by decide)] at z7
    have X3 := z3 ▸ A2.hd (k := 5 * n + 0) (v := v) (q := 36) (Or.inl rfl)
    have X4 := z4 ▸ X3.hd (k := 5 * n + 1) (v := -1) (q := 36) (Or.inl rfl)
    have X5 := z5 ▸ X4.hd (k := 5 * n + 2) (v := -1) (q := 36) (Or.inl rfl)
    have X6 := z6 ▸ X5.hd (k := 5 * n + 3) (v := 1) (q := 36) (Or.inl rfl)
    have X7 := z7 ▸ X6.hd (k := 5 * n + 4) (v := -1) (q := 36) (Or.inl rfl)
    have F7 : XFc h h7 := by
      rw [z7, z6, z5, z4, z3]
      exact (((((F1.c.si (by omega)).si (Or.inl rfl)).si (Or.inl rfl)).si (Or.inl rfl)).si (Or.inl rfl)).si (Or.inl rfl)
    have g36 : ∀ k, gi h7 36 k = if k = 5 * n + 4 then -1 else if k = 5 * n + 3 then 1 else if k = 5 * n + 2 then -1 else if k = 5 * n + 1 then -1 else if k = 5 * n + 0 then v else gi h 36 k := fun k => by
      rw [z7, z6, z5, z4, z3, giF_eq, giF_eq, giF_eq, giF_eq, giF_eq]
      unfold up1
      rw [gi_no (by decide), F1.1 36 k (by omega)]
    have g37 : ∀ k, gi h7 37 k = gi h 37 k := fun k => by
      rw [z7, z6, z5, z4, z3, gi_no (by decide), gi_no (by decide), gi_no (by decide), gi_no (by decide), gi_no (by decide), gi_no (by decide), A.2]
    have S : StC X h h7 n (i + 1) p ln ln v (-1) (-1) 1 := by
      refine ⟨X7, F7, by rw [z7, gi_no (by decide)]; exact e6, ⟨?_, ?_, ?_, ?_, ?_⟩, fun k hk => ?_, ⟨fun k _ => g37 k, fun w => (funext g37 : gi h7 37 = gi h 37) ▸ w⟩, Int.le_refl _⟩
      · rw [g36, if_neg (by omega), if_neg (by omega), if_neg (by omega), if_neg (by omega), if_pos (by omega)]
      · rw [g36, if_neg (by omega), if_neg (by omega), if_neg (by omega), if_pos rfl]
      · rw [g36, if_neg (by omega), if_neg (by omega), if_pos rfl]
      · rw [g36, if_neg (by omega), if_pos rfl]
      · rw [g36, if_pos rfl]
      · rw [g36, if_neg (by omega), if_neg (by omega), if_neg (by omega), if_neg (by omega), if_neg (by omega)]
    have f7 : gi h7 31 7 = X.mode := (F7.1 _ _ (by omega)).trans e7
    have no : ((X.mode = 0 ∧ 2 ≤ v) ∨ (X.mode = 1 ∧ v = 4)) → Lp_X3_clause_87 (28 + e) b Q v 0 h7 := fun cc => by
      refine l_X3_clause_87 ⟨fun _ => lp101 S hn ⟨hi.1, by omega⟩ ⟨hv.1, hv.2.1, hv.2.2.1⟩ (o1 := none) rfl ⟨fun m => ?_, fun m => ?_⟩ kO kN, fun y => absurd rfl y⟩
      · have := vL m
        rw [show v = X.c i - 273 by omega]
        exact ⟨Cl1.no L hn hi.1 (by omega), fun y => by omega, fun _ => rfl⟩
      · have := vO m
        rw [show v = 4 by omega]
        exact Or1.tide L hn (by omega)
    have su : ((X.mode = 0 ∧ v < 2) ∨ (X.mode = 1 ∧ v ≠ 4)) → Lp_X3_clause_87 (28 + e) b Q v 1 h7 := fun cc => by
      refine l_X3_clause_87 ⟨fun y => absurd y (by decide), fun _ => ?_⟩
      refine WM_d (show 28 + (e + 2) = 28 + e + 2 by omega) (x_sumOf (e := e + 2) (n := n) (by decide) X7 S.2.2.1 hn (by omega) (fun h8 i8 p8 ln8 x R1 R2 R3 R4 R5 R6 R7 R8 R9 R10 R11 R12 => ⟨1, rfl, fun y => by omega, fun _ => ?_⟩) (fun h8 R1 R2 R3 R4 => ⟨0, rfl, fun _ => ?_, fun y => absurd rfl y⟩))
      · obtain ⟨s1, s2, s3, ⟨s4, s5, s6, s7, s8⟩, s9, s10, s11⟩ := S
        refine lp101 (i1 := i8) (p1 := p8) (ln1 := ln8) (v := v) (f1 := ln) (o1 := some x) ⟨R1, s2.trans R2, R6, ⟨?_, ?_, ?_, ?_, ?_⟩, fun k hk => ?_, ⟨fun k hk => (R8.1 k hk).trans (s10.1 k hk), fun w => R8.2 (s10.2 w)⟩, by omega⟩ hn ⟨hi.1, by omega⟩ ⟨hv.1, hv.2.1, hv.2.2.1⟩ ⟨⟨l2.1, l2.2.1⟩, R9, R10⟩ ⟨fun m => ?_, fun m => ?_⟩ kO kN
        · rw [R7, up1_ne (by omega)]; exact s4
        · rw [R7, up1_eq]
        · rw [R7, up1_ne (by omega)]; exact s6
        · rw [R7, up1_ne (by omega)]; exact s7
        · rw [R7, up1_ne (by omega)]; exact s8
        · rw [R7, up1_ne (by omega)]; exact s9 k hk
        · have := vL m
          rw [show v = X.c i - 273 by omega]
          exact ⟨Cl1.sum L m hn hi.1 (by omega) R11 R12 R3, fun _ y => (by cases y), fun y => by omega⟩
        · have := vO m
          rw [this]
          exact Or1.sum L m hn hi.1 (by omega) R11 R12
      · refine kN h8 (F7.trans R1) R2 ⟨fun m => ?_, fun m => ?_⟩
        · have := vL m
          exact FaL.sum L hn hi.1 (by omega) R4
        · have := vO m
          exact FaO.sum L hn hi.1 (by omega) R4
    refine l_X3_clause_52 ?_
    rw [f7]
    exact ⟨fun m => ⟨fun c => su (Or.inl ⟨m, by omega⟩), fun c1 => ⟨fun c => su (Or.inl ⟨m, by omega⟩), fun c2 => no (Or.inl ⟨m, by omega⟩)⟩⟩, fun m => ⟨fun c => no (Or.inr ⟨by omega, c⟩), fun c => su (Or.inr ⟨by omega, c⟩)⟩⟩
  refine WM_d (show 28 + e + 3 = 31 + e by omega) (w_X3_clause ?_)
  rw [H.2.1, e7]
  refine ⟨fun m => ⟨by omega, ?_⟩, fun m => ⟨by omega, ?_⟩⟩
  · rw [if_pos m] at ev
    rw [ev]
    exact main
  · rw [if_neg m] at ev
    rw [ev]
    exact main
end XCL
