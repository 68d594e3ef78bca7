def St0 (X : Txt) (h : AH) : Prop := MC X h 0 0 ∧ gi h 0 21 = 0 ∧ gi h 0 23 = 0
/-! texts of laws in the reference -/
abbrev RdL (d b : Nat) (Q : Option AV → AH → Prop) (h : AH) : Prop := WM GM (d + 7) 0 mX8_readLaw [vR (some 0)] h (fun r h2 => r = none ∧ Lp_X8_law_37 d b Q h2)
def AlL (h : AH) (R : List Rec) : Prop := ∀ (j : Nat) (r : Rec), R[j]? = some r → ClL (codeH h) (gi h 10) j r
def TxL (X : Txt) (i p : Int) (R : List Rec) : Prop := ∀ (d b : Nat) (Q : Option AV → AH → Prop) (h : AH), St0 X h → (∀ h', MC X h' i p → gi h' 0 21 = R.length → FrR h h' → AlL h' R → Lp_X8_law_37 d b Q h') → RdL d b Q h
def EdL (X : Txt) (R : List Rec) : Prop := ∀ (d b : Nat) (Q : Option AV → AH → Prop) (h : AH), St0 X h → (∀ h' i p, MC X h' i p → X.c i = -1 → gi h' 0 21 = R.length → FrR h h' → AlL h' R → Lp_X8_law_64 d b Q h') → RdL d b Q h
def BdL (X : Txt) (j : Int) : Prop := ∀ (d b : Nat) (Q : Option AV → AH → Prop) (h : AH), St0 X h → (∀ h', FrR h h' → ((gi h' 0 19 = 1 ∧ gi h' 0 18 = X.pl j) ∨ ∃ p, MC X h' j p ∧ X.c j ≠ -1) → Lp_X8_law_64 d b Q h') → RdL d b Q h
theorem TxL.one {X : Txt} {i p : Int} {r : Rec} (H : ToL X 0 0 0 i p r) : TxL X i p [r] := by
  intro d b Q h S K
  refine H d 0 _ h S.1 S.2.1 (fun h' M e F E C k => ⟨rfl, K h' M e F (fun j r' hj => ?_)⟩)
  match j, hj with
  | 0, hj =>
    have : r = r' := Option.some.inj hj
    subst this
    exact C
  | j + 1, hj => cases hj
theorem TxL.go {X : Txt} {i p i' p' : Int} {R : List Rec} {r : Rec} (L : LxOK X) (T : TxL X i p R) (hc : X.c i = 59) (H : ToL X (i + 1) p R.length i' p' r) : TxL X i' p' (R ++ [r]) := by
  intro d b Q h S K
  refine T d b Q h S (fun h1 M1 e1 F1 A1 => ?_)
  refine l_X8_law_37 ⟨fun _ => ⟨fun _ => M1.next L (by omega) (fun h2 F2 M2 => ⟨rfl, ?_⟩), fun z => absurd ((M1.2.1.2.2.2.sg (by decide)).mpr hc) z⟩, fun z => absurd M1.1 z⟩
  have c2 := F2.code
  refine H d 0 _ h2 M2 ((F2.1 _ _ (by omega)).trans e1) (fun h3 M3 e3 F3 E3 C3 k3 => ⟨rfl, K h3 M3 ?_ ((F1.trans F2.p.r).trans F3) (fun j r' hj => ?_)⟩)
  · rw [List.length_append, List.length_singleton, e3]
    omega
  · by_cases z : j < R.length
    · rw [List.getElem?_append_left z] at hj
      rw [c2] at E3
      have l1 := L.m1
      have t3 := M3.2.1.1
      have n3 := M3.2.2.2.2.1
      exact (A1 j r' hj).ext E3 (by show gi h3 0 23 < 400; omega) (fun k k0 k1 => (k3 _ (by omega)).trans (F2.1 _ _ (by omega)))
    · rw [List.getElem?_append_right (by omega)] at hj
      have z2 : j - R.length = 0 := by
        rcases Nat.eq_zero_or_pos (j - R.length) with q | q
        · exact q
        · rw [List.getElem?_eq_none (by rw [List.length_singleton]; omega)] at hj
          cases hj
      rw [z2] at hj
      have : r = r' := Option.some.inj hj
      subst this
      rw [show j = R.length by omega]
      exact C3
theorem EdL.of {X : Txt} {i p : Int} {R : List Rec} (T : TxL X i p R) (hc : X.c i = -1) : EdL X R := by
  intro d b Q h S K
  refine T d b Q h S (fun h1 M1 e1 F1 A1 => l_X8_law_37 ⟨fun _ => ⟨fun z => ?_, fun _ => K h1 i p M1 hc e1 F1 A1⟩, fun z => absurd M1.1 z⟩)
  have := (M1.2.1.2.2.2.sg (by decide)).mp z
  omega
theorem BdL.one {X : Txt} {j : Int} (H : FaL X 0 0 0 j) : BdL X j := by
  intro d b Q h S K
  exact H d 0 _ h S.1 S.2.1 (fun h' F e1 e2 => ⟨rfl, l_X8_law_37 ⟨fun z => by omega, fun _ => K h' F (Or.inl ⟨e1, e2⟩)⟩⟩)
theorem BdL.go {X : Txt} {i p j : Int} {R : List Rec} (L : LxOK X) (T : TxL X i p R) (hc : X.c i = 59) (H : FaL X (i + 1) p R.length j) : BdL X j := by
  intro d b Q h S K
  refine T d b Q h S (fun h1 M1 e1 F1 A1 => ?_)
  refine l_X8_law_37 ⟨fun _ => ⟨fun _ => M1.next L (by omega) (fun h2 F2 M2 => ⟨rfl, ?_⟩), fun z => absurd ((M1.2.1.2.2.2.sg (by decide)).mpr hc) z⟩, fun z => absurd M1.1 z⟩
  exact H d 0 _ h2 M2 ((F2.1 _ _ (by omega)).trans e1) (fun h3 F3 f1 f2 => ⟨rfl, l_X8_law_37 ⟨fun z => by omega, fun _ => K h3 ((F1.trans F2.p.r).trans F3) (Or.inl ⟨f1, f2⟩)⟩⟩)
theorem BdL.end_ {X : Txt} {i p : Int} {R : List Rec} (T : TxL X i p R) (hc : X.c i ≠ -1) (h59 : X.c i ≠ 59) : BdL X i := by
  intro d b Q h S K
  exact T d b Q h S (fun h1 M1 e1 F1 A1 => l_X8_law_37 ⟨fun _ => ⟨fun z => absurd ((M1.2.1.2.2.2.sg (by decide)).mp z) h59, fun _ => K h1 F1 (Or.inr ⟨p, M1, hc⟩)⟩, fun z => absurd M1.1 z⟩)
/-! texts of orders in the reference -/
abbrev RdO (d b : Nat) (Q : Option AV → AH → Prop) (h : AH) : Prop := WM GM (d + 9) 0 mX8_readOrder [vR (some 0)] h (fun r h2 => r = none ∧ Lp_X8_orders_19 d b Q h2)
def AlO (h : AH) (R : List Rec) : Prop := ∀ (j : Nat) (r : Rec), R[j]? = some r → ClO (codeH h) (gi h 29) j r
def TxO (X : Txt) (i p : Int) (R : List Rec) : Prop := ∀ (d b : Nat) (Q : Option AV → AH → Prop) (h : AH), St0 X h → (∀ h', MC X h' i p → gi h' 0 21 = R.length → FrR h h' → AlO h' R → Lp_X8_orders_19 d b Q h') → RdO d b Q h
def EdO (X : Txt) (R : List Rec) : Prop := ∀ (d b : Nat) (Q : Option AV → AH → Prop) (h : AH), St0 X h → (∀ h' i p, MC X h' i p → X.c i = -1 → gi h' 0 21 = R.length → FrR h h' → AlO h' R → Lp_X8_orders_46 d b Q h') → RdO d b Q h
def BdO (X : Txt) (j : Int) : Prop := ∀ (d b : Nat) (Q : Option AV → AH → Prop) (h : AH), St0 X h → (∀ h', FrR h h' → ((gi h' 0 19 = 1 ∧ gi h' 0 18 = X.pl j) ∨ ∃ p, MC X h' j p ∧ X.c j ≠ -1) → Lp_X8_orders_46 d b Q h') → RdO d b Q h
theorem TxO.one {X : Txt} {i p : Int} {r : Rec} (H : ToO X 0 0 0 i p r) : TxO X i p [r] := by
  intro d b Q h S K
  refine H (d + 1) 0 _ h S.1 S.2.1 (fun h' M e F E C k => ⟨rfl, K h' M e F (fun j r' hj => ?_)⟩)
  match j, hj with
  | 0, hj =>
    have : r = r' := Option.some.inj hj
    subst this
    exact C
  | j + 1, hj => cases hj
theorem TxO.go {X : Txt} {i p i' p' : Int} {R : List Rec} {r : Rec} (L : LxOK X) (T : TxO X i p R) (hc : X.c i = 59) (H : ToO X (i + 1) p R.length i' p' r) : TxO X i' p' (R ++ [r]) := by
  intro d b Q h S K
  refine T d b Q h S (fun h1 M1 e1 F1 A1 => ?_)
  refine l_X8_orders_19 ⟨fun _ => ⟨fun _ => M1.next L (by omega) (fun h2 F2 M2 => ⟨rfl, ?_⟩), fun z => absurd ((M1.2.1.2.2.2.sg (by decide)).mpr hc) z⟩, fun z => absurd M1.1 z⟩
  have c2 := F2.code
  refine H (d + 1) 0 _ h2 M2 ((F2.1 _ _ (by omega)).trans e1) (fun h3 M3 e3 F3 E3 C3 k3 => ⟨rfl, K h3 M3 ?_ ((F1.trans F2.p.r).trans F3) (fun j r' hj => ?_)⟩)
  · rw [List.length_append, List.length_singleton, e3]
    omega
  · by_cases z : j < R.length
    · rw [List.getElem?_append_left z] at hj
      rw [c2] at E3
      have l1 := L.m1
      have t3 := M3.2.1.1
      have n3 := M3.2.2.2.2.1
      exact (A1 j r' hj).ext E3 (by show gi h3 0 23 < 400; omega) (fun k k0 k1 => (k3 _ (by omega)).trans (F2.1 _ _ (by omega)))
    · rw [List.getElem?_append_right (by omega)] at hj
      have z2 : j - R.length = 0 := by
        rcases Nat.eq_zero_or_pos (j - R.length) with q | q
        · exact q
        · rw [List.getElem?_eq_none (by rw [List.length_singleton]; omega)] at hj
          cases hj
      rw [z2] at hj
      have : r = r' := Option.some.inj hj
      subst this
      rw [show j = R.length by omega]
      exact C3
theorem EdO.of {X : Txt} {i p : Int} {R : List Rec} (T : TxO X i p R) (hc : X.c i = -1) : EdO X R := by
  intro d b Q h S K
  refine T d b Q h S (fun h1 M1 e1 F1 A1 => l_X8_orders_19 ⟨fun _ => ⟨fun z => ?_, fun _ => K h1 i p M1 hc e1 F1 A1⟩, fun z => absurd M1.1 z⟩)
  have := (M1.2.1.2.2.2.sg (by decide)).mp z
  omega
theorem BdO.one {X : Txt} {j : Int} (H : FaO X 0 0 0 j) : BdO X j := by
  intro d b Q h S K
  exact H (d + 1) 0 _ h S.1 S.2.1 (fun h' F e1 e2 => ⟨rfl, l_X8_orders_19 ⟨fun z => by omega, fun _ => K h' F (Or.inl ⟨e1, e2⟩)⟩⟩)
theorem BdO.go {X : Txt} {i p j : Int} {R : List Rec} (L : LxOK X) (T : TxO X i p R) (hc : X.c i = 59) (H : FaO X (i + 1) p R.length j) : BdO X j := by
  intro d b Q h S K
  refine T d b Q h S (fun h1 M1 e1 F1 A1 => ?_)
  refine l_X8_orders_19 ⟨fun _ => ⟨fun _ => M1.next L (by omega) (fun h2 F2 M2 => ⟨rfl, ?_⟩), fun z => absurd ((M1.2.1.2.2.2.sg (by decide)).mpr hc) z⟩, fun z => absurd M1.1 z⟩
  exact H (d + 1) 0 _ h2 M2 ((F2.1 _ _ (by omega)).trans e1) (fun h3 F3 f1 f2 => ⟨rfl, l_X8_orders_19 ⟨fun z => by omega, fun _ => K h3 ((F1.trans F2.p.r).trans F3) (Or.inl ⟨f1, f2⟩)⟩⟩)
theorem BdO.end_ {X : Txt} {i p : Int} {R : List Rec} (T : TxO X i p R) (hc : X.c i ≠ -1) (h59 : X.c i ≠ 59) : BdO X i := by
  intro d b Q h S K
  exact T d b Q h S (fun h1 M1 e1 F1 A1 => l_X8_orders_19 ⟨fun _ => ⟨fun z => absurd ((M1.2.1.2.2.2.sg (by decide)).mp z) h59, fun _ => K h1 F1 (Or.inr ⟨p, M1, hc⟩)⟩, fun z => absurd M1.1 z⟩)
/-! the class reads a text -/
def Tx (X : Txt) (i p : Int) (R : List Rec) : Prop := (X.mode = 0 → TxL X i p R) ∧ (X.mode = 1 → TxO X i p R) ∧ ∀ r, r ∈ R → OkO X.mode r
def Ed (X : Txt) (R : List Rec) : Prop := (X.mode = 0 → EdL X R) ∧ (X.mode = 1 → EdO X R) ∧ ∀ r, r ∈ R → OkO X.mode r
def Bd (X : Txt) (j : Int) : Prop := (X.mode = 0 → BdL X j) ∧ (X.mode = 1 → BdO X j)
def FrD (a h : AH) : Prop := (∀ q x, ¬ (q = 31 ∨ q = 32 ∨ q = 33 ∨ q = 34 ∨ q = 36 ∨ q = 37 ∨ (q = 35 ∧ (x = 0 ∨ x = 2)) ∨ (q = 29 ∧ x = 1)) → gi h q x = gi a q x) ∧ rf h = rf a ∧ kd h = kd a ∧ hn h = hn a ∧ gl h = gl a
theorem FrD.trans {a b c : AH} (x : FrD a b) (y : FrD b c) : FrD a c := ⟨fun q k z => (y.1 q k z).trans (x.1 q k z), y.2.1.trans x.2.1, y.2.2.1.trans x.2.2.1, y.2.2.2.1.trans x.2.2.2.1, y.2.2.2.2.trans x.2.2.2.2⟩
theorem FrD.si {a b : AH} (x : FrD a b) {q : Nat} {i v : Int} (h : q = 31 ∨ q = 32 ∨ q = 33 ∨ q = 34 ∨ q = 36 ∨ q = 37 ∨ (q = 35 ∧ (i = 0 ∨ i = 2)) ∨ (q = 29 ∧ i = 1)) : FrD a (si b q i v) := x.trans ⟨fun q' k z => by rw [gi_si, if_neg (fun e => z (by rw [e.1, e.2]; exact h))], rfl, rfl, rfl, rfl⟩
theorem FrG.d {a b : AH} (x : FrG a b) : FrD a b := ⟨fun q k z => x.1 q k (by omega), x.2⟩
theorem XFc.d {a b : AH} (x : XFc a b) : FrD a b := ⟨fun q k z => x.1 q k (by omega), x.2⟩
def AlX (mode : Int) (h : AH) (R : List Rec) : Prop := ∀ (j : Nat) (r : Rec), R[j]? = some r → ClX mode (gi h 36) (gi h 37) (gi h 35 2) j r
section READS
variable {b : Nat} {Q : Option AV → AH → Prop} {X : Txt}
theorem no127 {d : Nat} {a h' : AH} {j : Int} (L : LxOK X) (hp : ∀ i, 0 ≤ i → i < X.m → gi a 33 i = X.pl i) (F : XFc a h') (e4 : gi h' 31 4 = j) (hj : 0 ≤ j ∧ j < X.m) (k : Q (some (vI 0)) (si h' 31 8 (X.pl j))) : Lp_X3_reads_127 d b Q 0 h' := by
  have g : gi h' 33 j = X.pl j := (F.1 _ _ (by omega)).trans (hp j hj.1 hj.2)
  have l := L.m1
  refine l_X3_reads_127 ⟨fun _ => ⟨by omega, fun h1 z1 => ⟨Or.inl rfl, ?_⟩⟩, fun z => absurd rfl z⟩
  rw [e4, g] at z1
  subst z1
  exact k
theorem lp59 {e : Nat} {a : AH} (hp : ∀ i, 0 ≤ i → i < X.m → gi a 33 i = X.pl i)
    (kO : ∀ h' R i, XFc a h' → X.c i = -1 → gi h' 35 0 = (R : List Rec).length → (1 ≤ R.length ∧ R.length ≤ 12) → (0 ≤ gi h' 35 2 ∧ gi h' 35 2 ≤ 872) → AlX X.mode h' R ∧ WfR (mX X.mode) (gi h' 37) 0 (gi h' 35 2) → Ed X R → Q (some (vI 1)) (si h' 31 8 (-1)))
    (kN : ∀ h' j, XFc a h' → (0 ≤ j ∧ j < X.m) → Bd X j → Q (some (vI 0)) (si h' 31 8 (X.pl j))) :
    ∀ (f : Nat) (R : List Rec) (h : AH) (i p ln : Int), R.length + f = 12 → 1 ≤ R.length → XP X 0 h h i p ln → XFc a h → gi h 35 0 = R.length → AlX X.mode h R ∧ WfR (mX X.mode) (gi h 37) 0 (gi h 35 2) → Tx X i p R → Lp_X3_reads_59 (20 + e) b Q 1 R.length h := by
  intro f
  induction f with
  | zero =>
    intro R h i p ln hf R1 H F e0 A T
    have L := H.L
    have md := H.md
    have hi := H.2.2.2.2.1
    have e5 := H.2.1
    have e4 : gi h 31 4 = i := H.1
    have end_ : X.c i ≠ 59 → Lp_X3_reads_109 (20 + e) b Q 1 h := fun h59 => by
      refine l_X3_reads_109 ⟨fun z => absurd z (by decide), fun _ => ?_⟩
      rw [e5]
      refine ⟨fun c => l_X3_reads_127 ⟨fun z => absurd z (by decide), fun _ h2 z2 => ⟨Or.inr rfl, ?_⟩⟩, fun c => no127 L hp F e4 hi (kN h i F hi ⟨fun m => BdL.end_ (T.1 m) c h59, fun m => BdO.end_ (T.2.1 m) c h59⟩)⟩
      subst z2
      exact kO h R i F c e0 (by omega) H.preL A ⟨fun m => EdL.of (T.1 m) c, fun m => EdO.of (T.2.1 m) c, T.2.2⟩
    refine l_X3_reads_59 ⟨fun z => by omega, fun _ => ⟨fun z => absurd z (by decide), fun _ => ?_⟩⟩
    rw [e5]
    refine ⟨fun c => ⟨H.pre, fun h1 z1 => ?_⟩, fun c => end_ c⟩
    subst z1
    have B := H.adv (by omega)
    have F1 := F.trans B.1.2.2.2.2.2.2.2.1.c
    refine ⟨fun _ => l_X3_reads_103 ⟨by omega, ?_⟩, fun z => by omega⟩
    have N : Lp_X3_reads_109 (20 + e) b Q 0 (advX h) := l_X3_reads_109 ⟨fun _ => no127 L hp F1 B.1.1 B.1.2.2.2.2.1 (kN _ _ F1 B.1.2.2.2.2.1 ⟨fun m => BdL.go L (T.1 m) c (FaL.at0 (Or.inr (by omega))), fun m => BdO.go L (T.2.1 m) c (FaO.at0 (Or.inr (by omega)))⟩), fun z => absurd rfl z⟩
    exact l_X3_reads_59 ⟨fun _ => N, fun _ => ⟨fun _ => N, fun z => absurd rfl z⟩⟩
  | succ f ih =>
    intro R h i p ln hf R1 H F e0 A T
    have L := H.L
    have md := H.md
    have hi := H.2.2.2.2.1
    have e5 := H.2.1
    have e4 : gi h 31 4 = i := H.1
    have end_ : X.c i ≠ 59 → Lp_X3_reads_109 (20 + e) b Q 1 h := fun h59 => by
      refine l_X3_reads_109 ⟨fun z => absurd z (by decide), fun _ => ?_⟩
      rw [e5]
      refine ⟨fun c => l_X3_reads_127 ⟨fun z => absurd z (by decide), fun _ h2 z2 => ⟨Or.inr rfl, ?_⟩⟩, fun c => no127 L hp F e4 hi (kN h i F hi ⟨fun m => BdL.end_ (T.1 m) c h59, fun m => BdO.end_ (T.2.1 m) c h59⟩)⟩
      subst z2
      exact kO h R i F c e0 (by omega) H.preL A ⟨fun m => EdL.of (T.1 m) c, fun m => EdO.of (T.2.1 m) c, T.2.2⟩
    refine l_X3_reads_59 ⟨fun z => by omega, fun _ => ⟨fun z => absurd z (by decide), fun _ => ?_⟩⟩
    rw [e5]
    refine ⟨fun c => ⟨H.pre, fun h1 z1 => ?_⟩, fun c => end_ c⟩
    subst z1
    have B := H.adv (by omega)
    have FBr := B.1.2.2.2.2.2.2.2.1
    have FB := FBr.c
    have F1 := F.trans FB
    refine ⟨fun z => by omega, fun _ => ?_⟩
    refine WM_d (show 31 + e = 20 + e + 11 by omega) (x_clause (n := R.length) B.1.self ((FBr.1 _ _ (by omega)).trans e0) (by omega) (fun h2 i2 p2 ln2 r X2 F2 lt2 e2 C2 k2 s2 l2 t2 => ⟨1, rfl, fun z => by omega, fun _ => l_X3_reads_103 ⟨by omega, ?_⟩⟩) (fun h2 F2 r2 B2 => ⟨0, rfl, fun _ => l_X3_reads_103 ⟨by omega, ?_⟩, fun z => absurd rfl z⟩))
    · have ih2 := ih (R ++ [r]) h2 i2 p2 ln2 (by rw [List.length_append, List.length_singleton]; omega) (by rw [List.length_append, List.length_singleton]; omega) X2 (F1.trans F2) (by rw [List.length_append, List.length_singleton, e2]; omega) ⟨fun j r' hj => ?_, ?_⟩ ⟨fun m => TxL.go L (T.1 m) c (t2.1 m), fun m => TxO.go L (T.2.1 m) c (t2.2.1 m), fun r' hr' => by
        rcases List.mem_append.mp hr' with z | z
        · exact T.2.2 r' z
        · rw [List.mem_singleton.mp z]
          exact t2.2.2⟩
      · rw [List.length_append, List.length_singleton] at ih2
        rw [show ((R.length : Nat) : Int) + 1 = ((R.length + 1 : Nat) : Int) by omega]
        exact ih2
      · by_cases z : j < R.length
        · rw [List.getElem?_append_left z] at hj
          refine (A.1 j r' hj).ext (fun k hk => ?_) ?_ (fun k k0 k1 => ?_)
          · rw [s2.1 k (by rw [← H.2.2.2.1]; exact hk), B.2]
          · rw [H.2.2.2.1, X2.2.2.2.1]; exact l2
          · rw [k2 _ (by omega)]
            exact FBr.1 36 _ (by omega)
        · rw [List.getElem?_append_right (by omega)] at hj
          have z2 : j - R.length = 0 := by
            rcases Nat.eq_zero_or_pos (j - R.length) with q | q
            · exact q
            · rw [List.getElem?_eq_none (by rw [List.length_singleton]; omega)] at hj
              cases hj
          rw [z2] at hj
          have : r = r' := Option.some.inj hj
          subst this
          rw [show j = R.length by omega, X2.2.2.2.1]
          exact C2
      · rw [X2.2.2.2.1]
        refine s2.2 ?_
        rw [B.2, ← H.2.2.2.1]
        exact A.2
    · have F12 := F1.trans F2
      have N : Lp_X3_reads_109 (20 + e) b Q 0 h2 := l_X3_reads_109 ⟨fun _ => no127 L hp F12 rfl r2 (kN _ _ F12 r2 ⟨fun m => BdL.go L (T.1 m) c (B2.1 m), fun m => BdO.go L (T.2.1 m) c (B2.2 m)⟩), fun z => absurd rfl z⟩
      exact l_X3_reads_59 ⟨fun _ => N, fun _ => ⟨fun _ => N, fun z => absurd rfl z⟩⟩
/-- a text is read -/
theorem c_X3_reads {e : Nat} {h : AH} {n mode : Int} (hm : mode = 0 ∨ mode = 1) (hB : ∀ x, 0 ≤ x → x < n → 0 ≤ gi h 30 x ∧ gi h 30 x ≤ 255) (hn : gi h 29 1 = n ∧ 0 ≤ n ∧ n ≤ 400)
    (kO : ∀ h' (X : Txt) R, X.T = gi h 30 → X.n = n → X.mode = mode → LxOK X → FrD h h' → gi h' 29 1 = 0 → gi h' 31 8 = -1 → gi h' 35 0 = (R : List Rec).length → (1 ≤ R.length ∧ R.length ≤ 12) → (0 ≤ gi h' 35 2 ∧ gi h' 35 2 ≤ 872) → AlX mode h' R ∧ WfR (mX mode) (gi h' 37) 0 (gi h' 35 2) → Ed X R → Q (some (vI 1)) h')
    (kN : ∀ h' (X : Txt) j, X.T = gi h 30 → X.n = n → X.mode = mode → LxOK X → FrD h h' → gi h' 29 1 = 0 → gi h' 31 8 = X.pl j → (0 ≤ j ∧ j < X.m) → Bd X j → Q (some (vI 0)) h') : WM GX (32 + e) b mX3_reads [vR (some 31), vR (some 29), vI mode] h Q := by
  refine WM_d (show 20 + e + 12 = 32 + e by omega) (w_X3_reads ?_)
  refine c_X3_split (d := 20 + e) mode hB hn (fun h1 X F1 eX L hX => ⟨rfl, fun h2 z2 h3 z3 h4 z4 h5 z5 => ⟨hm, fun h6 z6 h7 z7 h9 z9 => ?_⟩⟩)
  have eT : X.T = gi h 30 := by rw [eX]
  have en : X.n = n := by rw [eX]
  have em : X.mode = mode := by rw [eX]
  have ep : X.pl = gi h1 33 := by rw [eX]
  have emm : X.m = gi h1 31 3 := by rw [eX]
  have m1 := L.m1
  have c0 := (hX 0 (Int.le_refl _) (by omega)).1
  have FD : FrD h h9 := by
    rw [z9, z7, z6, z5, z4, z3, z2]
    exact ((((((F1.d.si (by omega)).si (by omega)).si (by omega)).si (by omega)).si (by omega)).si (by omega)).si (by omega)
  have g33 : ∀ k, gi h9 33 k = gi h1 33 k := fun k => by
    rw [z9, z7, z6, z5, z4, z3, z2, gi_no (by decide), gi_no (by decide), gi_no (by decide), gi_no (by decide), gi_no (by decide), gi_no (by decide), gi_no (by decide)]
  have XA9 : XA X 0 h9 := by
    refine ⟨?_, fun i i0 i1 => ⟨?_, ?_⟩, ?_, L, by rw [em]; exact hm, by decide, by decide⟩
    · rw [emm, z9, z7, z6, z5, z4, z3, z2, gi_no (by decide), gi_no (by decide), gi_nk (by decide), gi_nk (by decide), gi_nk (by decide), gi_nk (by decide), gi_no (by decide)]
    · rw [← (hX i i0 i1).1, z9, z7, z6, z5, z4, z3, z2, gi_no (by decide), gi_no (by decide), gi_no (by decide), gi_no (by decide), gi_no (by decide), gi_no (by decide), gi_no (by decide)]
    · rw [← (hX i i0 i1).2, z9, z7, z6, z5, z4, z3, z2, gi_no (by decide), gi_no (by decide), gi_no (by decide), gi_no (by decide), gi_no (by decide), gi_no (by decide), gi_no (by decide)]
    · rw [em, z9, z7, z6, gi_no (by decide), gi_no (by decide), gi_eq]
  have X9 : XP X 0 h9 h9 0 0 0 := by
    refine ⟨?_, ?_, ?_, ?_, by omega, by decide, by decide, XFr.rfl', XA9⟩
    · rw [z9, z7, z6, z5, z4, z3, gi_no (by decide), gi_no (by decide), gi_nk (by decide), gi_nk (by decide), gi_nk (by decide), gi_eq]
    · rw [← c0, z9, z7, z6, z5, z4, gi_no (by decide), gi_no (by decide), gi_nk (by decide), gi_nk (by decide), gi_eq]
    · rw [z9, z7, z6, z5, gi_no (by decide), gi_no (by decide), gi_nk (by decide), gi_eq]
    · rw [z9, gi_eq]
  have e35 : gi h9 35 0 = 0 := by rw [z9, z7, gi_nk (by decide), gi_eq]
  have e29 : gi h9 29 1 = 0 := by
    rw [z9, z7, z6, z5, z4, z3, z2, gi_no (by decide), gi_no (by decide), gi_no (by decide), gi_no (by decide), gi_no (by decide), gi_no (by decide)]
    exact gi_eq
  have hp : ∀ i, 0 ≤ i → i < X.m → gi h9 33 i = X.pl i := fun i _ _ => by rw [g33, ep]
  have kO' : ∀ h' R i, XFc h9 h' → X.c i = -1 → gi h' 35 0 = (R : List Rec).length → (1 ≤ R.length ∧ R.length ≤ 12) → (0 ≤ gi h' 35 2 ∧ gi h' 35 2 ≤ 872) → AlX X.mode h' R ∧ WfR (mX X.mode) (gi h' 37) 0 (gi h' 35 2) → Ed X R → Q (some (vI 1)) (si h' 31 8 (-1)) := fun h' R i F c q1 q2 q3 q4 q5 => by
    refine kO _ X R eT en em L ((FD.trans F.d).si (by omega)) ((gi_no (by decide)).trans ((F.1 _ _ (by omega)).trans e29)) gi_eq ((gi_no (by decide)).trans q1) q2 (by rw [gi_no (by decide)]; exact q3) ⟨fun j r hj => ?_, ?_⟩ q5
    · have := q4.1 j r hj
      rw [em] at this
      rw [giF_no (show (36 : Nat) ≠ 31 by decide), giF_no (show (37 : Nat) ≠ 31 by decide), gi_no (by decide)]
      exact this
    · have := q4.2
      rw [em] at this
      rw [giF_no (show (37 : Nat) ≠ 31 by decide), gi_no (by decide)]
      exact this
  have kN' : ∀ h' j, XFc h9 h' → (0 ≤ j ∧ j < X.m) → Bd X j → Q (some (vI 0)) (si h' 31 8 (X.pl j)) := fun h' j F hj B => kN _ X j eT en em L ((FD.trans F.d).si (by omega)) ((gi_no (by decide)).trans ((F.1 _ _ (by omega)).trans e29)) gi_eq hj B
  refine WM_d (show 31 + e = 20 + e + 11 by omega) (x_clause (n := 0) X9 e35 (by decide) (fun h2 i2 p2 ln2 r X2 F2 lt2 e2 C2 k2 s2 l2 t2 => ⟨1, rfl, ?_⟩) (fun h2 F2 r2 B2 => ⟨0, rfl, ?_⟩))
  · refine lp59 hp kO' kN' 11 [r] h2 i2 p2 ln2 rfl (Nat.le_refl 1) X2 F2 (by rw [e2]; rfl) ⟨fun j r' hj => ?_, ?_⟩ ⟨fun m => TxL.one (t2.1 m), fun m => TxO.one (t2.2.1 m), fun r' hr' => by
      rw [List.mem_singleton.mp hr']
      exact t2.2.2⟩
    · match j, hj with
      | 0, hj =>
        have : r = r' := Option.some.inj hj
        subst this
        rw [X2.2.2.2.1]
        exact C2
      | j + 1, hj => cases hj
    · rw [X2.2.2.2.1]
      exact s2.2 (fun i i0 i1 => by omega)
  · have N : Lp_X3_reads_109 (20 + e) b Q 0 h2 := l_X3_reads_109 ⟨fun _ => no127 L hp F2 rfl r2 (kN' _ _ F2 r2 ⟨fun m => BdL.one (B2.1 m), fun m => BdO.one (B2.2 m)⟩), fun z => absurd rfl z⟩
    exact l_X3_reads_59 ⟨fun z => by omega, fun _ => ⟨fun _ => N, fun z => absurd rfl z⟩⟩
end READS
