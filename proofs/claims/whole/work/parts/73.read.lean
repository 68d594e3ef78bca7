/-! a text's TOKENS, and the reference while it reads them -/
abbrev Txt : Type := (Int → Int) × Int × (Int → Int) × Int × Int
abbrev Txt.T (X : Txt) : Int → Int := X.1
abbrev Txt.n (X : Txt) : Int := X.2.1
abbrev Txt.pl (X : Txt) : Int → Int := X.2.2.1
abbrev Txt.m (X : Txt) : Int := X.2.2.2.1
abbrev Txt.mode (X : Txt) : Int := X.2.2.2.2
def Txt.c (X : Txt) (i : Int) : Int := cdF X.T X.n (X.pl i)
def Txt.v (X : Txt) (i : Int) : Int := nmF X.T X.n (X.pl i)
def LxOK (X : Txt) : Prop := (0 ≤ X.n ∧ X.n ≤ 400) ∧ (∀ x, 0 ≤ x → x < X.n → 0 ≤ X.T x ∧ X.T x ≤ 255) ∧ (1 ≤ X.m ∧ X.m ≤ 401) ∧ (X.pl 0 = runTo ltB X.T X.n 0) ∧ (∀ i, 0 ≤ i → i < X.m - 1 → 0 ≤ X.pl i ∧ X.pl i < X.n ∧ X.pl (i + 1) = runTo ltB X.T X.n (tEnd X.T X.n (X.pl i))) ∧ (X.pl (X.m - 1) = X.n)
theorem LxOK.n0 {X : Txt} (H : LxOK X) : 0 ≤ X.n ∧ X.n ≤ 400 := H.1
theorem LxOK.by_ {X : Txt} (H : LxOK X) : ∀ x, 0 ≤ x → x < X.n → 0 ≤ X.T x ∧ X.T x ≤ 255 := H.2.1
theorem LxOK.m1 {X : Txt} (H : LxOK X) : 1 ≤ X.m ∧ X.m ≤ 401 := H.2.2.1
theorem LxOK.p0 {X : Txt} (H : LxOK X) : X.pl 0 = runTo ltB X.T X.n 0 := H.2.2.2.1
theorem LxOK.ps {X : Txt} (H : LxOK X) : ∀ i, 0 ≤ i → i < X.m - 1 → 0 ≤ X.pl i ∧ X.pl i < X.n ∧ X.pl (i + 1) = runTo ltB X.T X.n (tEnd X.T X.n (X.pl i)) := H.2.2.2.2.1
theorem LxOK.pe {X : Txt} (H : LxOK X) : X.pl (X.m - 1) = X.n := H.2.2.2.2.2
def TabM (h : AH) : Prop := (∀ k : Nat, k < 11 → gl h 15 k = wTab.getD k 0) ∧ (∀ k : Nat, k < 7 → gl h 16 k = oTab.getD k 0) ∧ (∀ k : Nat, k < 4 → gl h 17 k = hTab.getD k 0) ∧ ∀ k : Nat, k < 5 → gl h 28 k = aTab.getD k 0
def TapeM (X : Txt) (h : AH) : Prop := gi h 0 13 = X.n ∧ (∀ x, 0 ≤ x → x < X.n → gi h 9 x = X.T x) ∧ gi h 0 20 = X.mode ∧ TabM h
def TokAt (X : Txt) (h : AH) (i : Int) : Prop := (0 ≤ i ∧ i < X.m) ∧ gi h 0 14 = X.pl i ∧ (gi h 0 15 = tkF X.T X.n (X.pl i) ∧ gi h 0 18 = -1) ∧ Tk h (X.c i) (X.v i)
/-- what reading may change -/
def FrP (a h : AH) : Prop := (∀ q x, ¬ (q = 11 ∨ q = 12 ∨ q = 13 ∨ q = 14 ∨ (q = 0 ∧ (x = 14 ∨ x = 15 ∨ x = 16 ∨ x = 18 ∨ x = 19 ∨ x = 23 ∨ x = 26 ∨ x = 29 ∨ x = 30))) → gi h q x = gi a q x) ∧ ∀ q x, ¬ (q = 0 ∧ x = 17) → gl h q x = gl a q x
theorem FrP.rfl' {a : AH} : FrP a a := ⟨fun _ _ _ => rfl, fun _ _ _ => rfl⟩
theorem FrP.trans {a b c : AH} (x : FrP a b) (y : FrP b c) : FrP a c := ⟨fun q k z => (y.1 q k z).trans (x.1 q k z), fun q k z => (y.2 q k z).trans (x.2 q k z)⟩
theorem FrP.si {a b : AH} (x : FrP a b) {q : Nat} {i v : Int} (h : q = 11 ∨ q = 12 ∨ q = 13 ∨ q = 14 ∨ (q = 0 ∧ (i = 14 ∨ i = 15 ∨ i = 16 ∨ i = 18 ∨ i = 19 ∨ i = 23 ∨ i = 26 ∨ i = 29 ∨ i = 30))) : FrP a (si b q i v) := x.trans ⟨fun q' k z => by rw [gi_si, if_neg (fun e => z (by rw [e.1, e.2]; exact h))], fun _ _ _ => rfl⟩
theorem FrN.p {a b : AH} (x : FrN a b) : FrP a b := ⟨fun q k z => x.1 q k (by omega), x.2⟩
theorem FrT.p {a b : AH} (x : FrT a b) : FrP a b := ⟨fun q k z => x.1 q k (by omega), fun _ _ _ => by rw [x.2]⟩
theorem FrP.pshK {a b : AH} (x : FrP a b) {o v : Int} : FrP a (psh b o v) := ((x.si (Or.inr (Or.inr (Or.inl rfl)))).si (Or.inr (Or.inr (Or.inr (Or.inl rfl))))).si (by omega)
theorem FrP.emiK {a b : AH} (x : FrP a b) {o v : Int} : FrP a (emi b o v) := ((x.si (Or.inl rfl)).si (Or.inr (Or.inl rfl))).si (by omega)
theorem TapeM.fr {X : Txt} {a b : AH} (t : TapeM X a) (x : FrP a b) : TapeM X b :=
  ⟨(x.1 _ _ (by omega)).trans t.1, fun k k0 k1 => (x.1 _ _ (by omega)).trans (t.2.1 k k0 k1), (x.1 _ _ (by omega)).trans t.2.2.1, fun k hk => (x.2 _ _ (by omega)).trans (t.2.2.2.1 k hk), fun k hk => (x.2 _ _ (by omega)).trans (t.2.2.2.2.1 k hk), fun k hk => (x.2 _ _ (by omega)).trans (t.2.2.2.2.2.1 k hk), fun k hk => (x.2 _ _ (by omega)).trans (t.2.2.2.2.2.2 k hk)⟩
theorem Tk.fr {a b : AH} {c v : Int} (t : Tk a c v) (e : gi b 0 16 = gi a 0 16) (e2 : gl b 0 17 = gl a 0 17) : Tk b c v := by
  unfold Tk
  rw [e, e2]
  exact t
theorem TokAt.fr {X : Txt} {a b : AH} {i : Int} (t : TokAt X a i) (e1 : gi b 0 14 = gi a 0 14) (e2 : gi b 0 15 = gi a 0 15 ∧ gi b 0 18 = gi a 0 18) (e3 : gi b 0 16 = gi a 0 16) (e4 : gl b 0 17 = gl a 0 17) : TokAt X b i := ⟨t.1, e1.trans t.2.1, ⟨e2.1.trans t.2.2.1.1, e2.2.trans t.2.2.1.2⟩, t.2.2.2.fr e3 e4⟩
theorem TokAt.frT {X : Txt} {a b : AH} {i : Int} (t : TokAt X a i) (x : FrT a b) : TokAt X b i := t.fr (x.1 _ _ (by omega)) ⟨x.1 _ _ (by omega), x.1 _ _ (by omega)⟩ (x.1 _ _ (by omega)) (by rw [x.2])
theorem psh_gi {h : AH} {o a : Int} {x : Int} (e : x ≠ 29) : gi (psh h o a) 0 x = gi h 0 x := by
  unfold psh
  rw [gi_nk e, gi_no (by decide), gi_no (by decide)]
theorem emi_gi {h : AH} {o a : Int} {x : Int} (e : x ≠ 23) : gi (emi h o a) 0 x = gi h 0 x := by
  unfold emi
  rw [gi_nk e, gi_no (by decide), gi_no (by decide)]
theorem psh_code {h : AH} {o a : Int} : codeH (psh h o a) = codeH h := by
  unfold psh codeH
  rw [giF_no (show (11 : Nat) ≠ 0 by decide), giF_no (show (11 : Nat) ≠ 14 by decide), giF_no (show (11 : Nat) ≠ 13 by decide), giF_no (show (12 : Nat) ≠ 0 by decide), giF_no (show (12 : Nat) ≠ 14 by decide), giF_no (show (12 : Nat) ≠ 13 by decide), gi_nk (by decide), gi_no (by decide), gi_no (by decide)]
theorem FrN.code {a b : AH} (x : FrN a b) : codeH b = codeH a := by
  unfold codeH
  rw [show gi b 11 = gi a 11 from funext (fun k => x.1 _ _ (by omega)), show gi b 12 = gi a 12 from funext (fun k => x.1 _ _ (by omega)), x.1 _ _ (by omega)]
theorem TokAt.pshK {X : Txt} {a : AH} {i o v : Int} (t : TokAt X a i) : TokAt X (psh a o v) i := t.fr (psh_gi (by decide)) ⟨psh_gi (by decide), psh_gi (by decide)⟩ (psh_gi (by decide)) rfl
theorem TokAt.emiK {X : Txt} {a : AH} {i o v : Int} (t : TokAt X a i) : TokAt X (emi a o v) i := t.fr (emi_gi (by decide)) ⟨emi_gi (by decide), emi_gi (by decide)⟩ (emi_gi (by decide)) rfl
/-- only the text's end is the end -/
theorem LxOK.lt {X : Txt} (L : LxOK X) {i : Int} (hi : 0 ≤ i ∧ i < X.m) (hc : X.c i ≠ -1) : i + 1 < X.m := by
  rcases Int.lt_or_le (i + 1) X.m with z | z
  · exact z
  · refine absurd ?_ hc
    have e : i = X.m - 1 := by omega
    unfold Txt.c cdF
    rw [e, L.pe, if_pos (Int.le_refl _)]
theorem LxOK.pl0 {X : Txt} (L : LxOK X) {i : Int} (hi : 0 ≤ i ∧ i < X.m) : 0 ≤ X.pl i ∧ X.pl i ≤ X.n := by
  by_cases z : i < X.m - 1
  · have := L.ps i hi.1 z
    omega
  · have : i = X.m - 1 := by omega
    rw [this, L.pe]
    have := L.n0
    omega
section MUST
variable {d b : Nat} {Q : Option AV → AH → Prop} {X : Txt} {h : AH} {i x : Int}
theorem next_T (L : LxOK X) (tp : TapeM X h) (tk : TokAt X h i) (hc : X.c i ≠ -1) (k : ∀ h', FrN h h' → TokAt X h' (i + 1) → Q none h') : WM GM (d + 1) b mX8_next [vR (some 0)] h Q := by
  have l1 := L.lt tk.1 hc
  have q := L.ps i tk.1.1 (by omega)
  have te := tEnd_R (T := X.T) q.2.1
  have e15 : gi h 0 15 = tEnd X.T X.n (X.pl i) := by
    rw [tk.2.2.1.1]
    unfold tkF
    rw [if_neg (by omega)]
  refine c_X8_next (T := X.T) (n := X.n) tp.2.1 L.by_ ⟨tp.1, L.n0⟩ (by omega) (fun h' F f1 f2 f3 => k h' F ⟨by have := tk.1; omega, ?_, ⟨?_, (F.1 _ _ (by omega)).trans tk.2.2.1.2⟩, ?_⟩)
  · rw [f1, e15, q.2.2]
  · rw [f2, e15, q.2.2]
  · unfold Txt.c Txt.v
    rw [q.2.2, ← e15]
    exact f3
theorem must_1 (L : LxOK X) (tp : TapeM X h) (ok : gi h 0 19 = 0) (tk : TokAt X h i) (hc : X.c i ≠ -1) (hx : x ≠ 0) (k : ∀ h', FrN h h' → TokAt X h' (i + 1) → Q none h') : WM GM (d + 2) b mX8_must [vR (some 0), vI x] h Q :=
  w_X8_must ⟨fun _ => ⟨fun z => absurd z hx, fun _ => ⟨fun _ => next_T L tp tk hc (fun h' F t => ⟨rfl, k h' F t⟩), fun z => absurd ok z⟩⟩, fun z => absurd ok z⟩
theorem must_0 (ok : gi h 0 19 = 0) (k : Q none (si (si h 0 19 1) 0 18 (gi h 0 14))) : WM GM (d + 2) b mX8_must [vR (some 0), vI 0] h Q :=
  w_X8_must ⟨fun _ => ⟨fun _ h3 e3 h4 e4 => by subst e4 e3; exact k, fun z => absurd rfl z⟩, fun z => absurd ok z⟩
end MUST
/-- the reference's pile and code while it reads, i tokens being read -/
def MS0 (h0 h : AH) (i : Int) (P : List (Int × Int)) : Prop := (PileM h P) ∧ (∀ e ∈ P, 20 ≤ e.1 ∧ e.1 ≤ 32 ∧ (e.1 = 29 ∨ e.1 = 30 → 0 ≤ e.2 ∧ e.2 < 400)) ∧ ((P.length : Int) ≤ i) ∧ (i ≤ 400) ∧ (0 ≤ gi h 0 23) ∧ (gi h 0 23 + cnt P + 1 ≤ i) ∧ (FrP h0 h)
theorem MS0.pm {h0 h : AH} {i : Int} {P : List (Int × Int)} (H : MS0 h0 h i P) : PileM h P := H.1
theorem MS0.pe {h0 h : AH} {i : Int} {P : List (Int × Int)} (H : MS0 h0 h i P) : ∀ e ∈ P, 20 ≤ e.1 ∧ e.1 ≤ 32 ∧ (e.1 = 29 ∨ e.1 = 30 → 0 ≤ e.2 ∧ e.2 < 400) := H.2.1
theorem MS0.ln {h0 h : AH} {i : Int} {P : List (Int × Int)} (H : MS0 h0 h i P) : (P.length : Int) ≤ i := H.2.2.1
theorem MS0.i4 {h0 h : AH} {i : Int} {P : List (Int × Int)} (H : MS0 h0 h i P) : i ≤ 400 := H.2.2.2.1
theorem MS0.k0 {h0 h : AH} {i : Int} {P : List (Int × Int)} (H : MS0 h0 h i P) : 0 ≤ gi h 0 23 := H.2.2.2.2.1
theorem MS0.cd {h0 h : AH} {i : Int} {P : List (Int × Int)} (H : MS0 h0 h i P) : gi h 0 23 + cnt P + 1 ≤ i := H.2.2.2.2.2.1
theorem MS0.fr {h0 h : AH} {i : Int} {P : List (Int × Int)} (H : MS0 h0 h i P) : FrP h0 h := H.2.2.2.2.2.2
def MS (X : Txt) (h0 h : AH) (i p : Int) (P : List (Int × Int)) (dep : Int) : Prop := (MS0 h0 h i P) ∧ (gi h 0 19 = 0) ∧ (TokAt X h i) ∧ (gi h 0 26 = p) ∧ (0 ≤ p ∧ p ≤ 50) ∧ (gi h 0 30 = dep) ∧ (0 ≤ dep ∧ dep ≤ 8) ∧ (TapeM X h0)
theorem MS.m0 {X : Txt} {h0 h : AH} {i p : Int} {P : List (Int × Int)} {dep : Int} (H : MS X h0 h i p P dep) : MS0 h0 h i P := H.1
theorem MS.ok {X : Txt} {h0 h : AH} {i p : Int} {P : List (Int × Int)} {dep : Int} (H : MS X h0 h i p P dep) : gi h 0 19 = 0 := H.2.1
theorem MS.tk {X : Txt} {h0 h : AH} {i p : Int} {P : List (Int × Int)} {dep : Int} (H : MS X h0 h i p P dep) : TokAt X h i := H.2.2.1
theorem MS.lv {X : Txt} {h0 h : AH} {i p : Int} {P : List (Int × Int)} {dep : Int} (H : MS X h0 h i p P dep) : gi h 0 26 = p := H.2.2.2.1
theorem MS.p0 {X : Txt} {h0 h : AH} {i p : Int} {P : List (Int × Int)} {dep : Int} (H : MS X h0 h i p P dep) : 0 ≤ p ∧ p ≤ 50 := H.2.2.2.2.1
theorem MS.dp {X : Txt} {h0 h : AH} {i p : Int} {P : List (Int × Int)} {dep : Int} (H : MS X h0 h i p P dep) : gi h 0 30 = dep := H.2.2.2.2.2.1
theorem MS.d0 {X : Txt} {h0 h : AH} {i p : Int} {P : List (Int × Int)} {dep : Int} (H : MS X h0 h i p P dep) : 0 ≤ dep ∧ dep ≤ 8 := H.2.2.2.2.2.2.1
theorem MS.tp {X : Txt} {h0 h : AH} {i p : Int} {P : List (Int × Int)} {dep : Int} (H : MS X h0 h i p P dep) : TapeM X h0 := H.2.2.2.2.2.2.2
section MS
variable {X : Txt} {h0 h h' : AH} {i p dep j : Int} {P q : List (Int × Int)}
theorem MS.tp' (M : MS X h0 h i p P dep) : TapeM X h := M.tp.fr M.m0.fr
theorem MS0.frN (M : MS0 h0 h i P) (F : FrN h h') (hj : i ≤ j ∧ j ≤ 400) : MS0 h0 h' j P :=
  ⟨M.pm.mk' (F.1 _ _ (by omega)) (fun x => F.1 _ _ (by omega)) (fun x => F.1 _ _ (by omega)), M.pe, by have := M.ln; omega, hj.2, by rw [F.1 _ _ (by omega)]; exact M.k0, by rw [F.1 _ _ (by omega)]; have := M.cd; omega, M.fr.trans F.p⟩
theorem MS0.pshK (M : MS0 h0 h i P) {o a : Int} (ho : 20 ≤ o ∧ o ≤ 32 ∧ (o = 29 ∨ o = 30 → 0 ≤ a ∧ a < 400)) (hi : i + 1 ≤ 400) : MS0 h0 (psh h o a) (i + 1) ((o, a) :: P) := by
  refine ⟨M.pm.push o a, List.forall_mem_cons.mpr ⟨ho, M.pe⟩, ?_, hi, ?_, ?_, M.fr.pshK⟩
  · rw [List.length_cons]
    have := M.ln
    omega
  · rw [psh_gi (by decide)]
    exact M.k0
  · rw [psh_gi (by decide)]
    have := M.cd
    unfold cnt
    split <;> omega
theorem emi_23 {h : AH} {o a : Int} : gi (emi h o a) 0 23 = gi h 0 23 + 1 := gi_eq
theorem PileM.emiK {h : AH} {P : List (Int × Int)} (H : PileM h P) {o a : Int} : PileM (emi h o a) P := H.mk' (emi_gi (by decide)) (fun x => by unfold emi; rw [gi_no (by decide), gi_no (by decide), gi_no (by decide)]) (fun x => by unfold emi; rw [gi_no (by decide), gi_no (by decide), gi_no (by decide)])
theorem MS0.emiK (M : MS0 h0 h i P) {o a : Int} (hi : i + 1 ≤ 400) : MS0 h0 (emi h o a) (i + 1) P :=
  ⟨M.pm.emiK, M.pe, by have := M.ln; omega, hi, by rw [emi_23]; have := M.k0; omega, by rw [emi_23]; have := M.cd; omega, M.fr.emiK⟩
/-- "and", "or": pushed and put into the code -/
theorem MS0.jmp (M : MS0 h0 h i P) {o : Int} (ho : o = 29 ∨ o = 30) (hi : i + 1 ≤ 400) : MS0 h0 (emi (psh h o (gi h 0 23)) o 0) (i + 1) ((o, gi h 0 23) :: P) := by
  have k0 := M.k0
  have cd := M.cd
  have c0 := cnt_0 P
  refine ⟨(M.pm.push o _).emiK, List.forall_mem_cons.mpr ⟨⟨by omega, by omega, fun _ => by omega⟩, M.pe⟩, ?_, hi, ?_, ?_, M.fr.pshK.emiK⟩
  · rw [List.length_cons]
    have := M.ln
    omega
  · rw [emi_23, psh_gi (by decide)]
    omega
  · rw [emi_23, psh_gi (by decide)]
    unfold cnt
    rw [if_pos ho]
    omega
theorem MS0.set (M : MS0 h0 h i (q ++ P)) (F : FrT h h') (pm : PileM h' P) (e : codeH h' = flu q (codeH h)) : MS0 h0 h' i P := by
  have k := flu_n q (codeH h)
  rw [← e] at k
  have k : gi h' 0 23 = gi h 0 23 + cnt q := k
  have c0 := cnt_0 q
  have k0 := M.k0
  have cd := M.cd
  have ln := M.ln
  rw [cnt_app] at cd
  rw [List.length_append] at ln
  exact ⟨pm, fun z hz => M.pe z (List.mem_append.mpr (Or.inr hz)), by omega, M.i4, by omega, by omega, M.fr.trans F.p⟩
/-- a bracket goes -/
theorem MS0.pop (M : MS0 h0 h i ((j, 0) :: P)) (hj : j = 31 ∨ j = 32) : MS0 h0 (si h 0 29 (gi h 0 29 - 1)) i P := by
  have cd := M.cd
  have ln := M.ln
  unfold cnt at cd
  dsimp only at cd
  rw [if_neg (by omega)] at cd
  rw [List.length_cons] at ln
  exact ⟨M.pm.pop, fun z hz => M.pe z (List.mem_cons_of_mem _ hz), by omega, M.i4, by rw [gi_nk (by decide)]; exact M.k0, by rw [gi_nk (by decide)]; omega, M.fr.si (by omega)⟩
theorem c_set {d b : Nat} {Q : Option AV → AH → Prop} {least : Int} (M : MS0 h0 h i (q ++ P)) (hP : topB P < least) (hl : 1 ≤ least) (hq : ∀ e ∈ q, least ≤ zbin e.1) (k : ∀ h', FrT h h' → MS0 h0 h' i P → codeH h' = flu q (codeH h) → Q none h') : WM GM (d + 1) b mX8_settle [vR (some 0), vI least] h Q := by
  have cd := M.cd
  have ln := M.ln
  have i4 := M.i4
  have c0 := cnt_0 P
  have c1 := cnt_app q P
  exact c_X8_settle (p := q) hP hl M.pm (fun e he => ⟨hq e he, (M.pe e (List.mem_append.mpr (Or.inl he))).2.2⟩) M.k0 (by omega) (by omega) (fun h' F pm e => k h' F (M.set F pm e) e)
end MS
abbrev LE (d b : Nat) (Q : Option AV → AH → Prop) (test t : Int) (h : AH) : Prop := Lp_X8_readExpression_20 d b Q test t h
section LEs
variable {d b : Nat} {Q : Option AV → AH → Prop} {X : Txt} {h0 h : AH} {test i p dep j : Int} {P : List (Int × Int)}
theorem splitP : ∀ (P : List (Int × Int)), ∃ q R, P = q ++ R ∧ topB R < 1 ∧ ∀ e ∈ q, 1 ≤ zbin e.1
  | [] => ⟨[], [], rfl, by decide, fun _ h => by cases h⟩
  | e :: r => by
    obtain ⟨q, R, e1, e2, e3⟩ := splitP r
    by_cases c : 1 ≤ zbin e.1
    · exact ⟨e :: q, R, by rw [e1]; rfl, e2, List.forall_mem_cons.mpr ⟨c, e3⟩⟩
    · exact ⟨[], e :: r, rfl, by show zbin e.1 < 1; omega, fun _ h => by cases h⟩
/-- a fault at token j -/
def BadK (X : Txt) (h0 : AH) (Q : Option AV → AH → Prop) (j : Int) : Prop := ∀ h', FrP h0 h' → gi h' 0 19 = 1 → gi h' 0 18 = X.pl j → Q none h'
theorem LE_bad {t : Int} (M : MS0 h0 h i P) (e1 : gi h 0 19 = 1) (e2 : gi h 0 18 = X.pl j) (K : BadK X h0 Q j) : LE d b Q test t h := by
  obtain ⟨q, R, z1, z2, z3⟩ := splitP P
  subst z1
  exact l_X8_readExpression_20 ⟨fun z => by omega, fun _ => c_set M z2 (by decide) z3 (fun h' F M' _ => ⟨rfl, K h' M'.fr (by rw [F.1 _ _ (by omega)]; exact e1) (by rw [F.1 _ _ (by omega)]; exact e2)⟩)⟩
/-- a fault told here -/
theorem LE_bad' {t : Int} (M : MS X h0 h i p P dep) (K : BadK X h0 Q i) : LE d b Q test t (si (si h 0 19 1) 0 18 (gi h 0 14)) := by
  refine LE_bad (i := i) (j := i) (P := P) ⟨M.m0.pm.mk' (by rw [gi_nk (by decide), gi_nk (by decide)]) (fun x => by rw [gi_no (by decide), gi_no (by decide)]) (fun x => by rw [gi_no (by decide), gi_no (by decide)]), M.m0.pe, M.m0.ln, M.m0.i4, by rw [gi_nk (by decide), gi_nk (by decide)]; exact M.m0.k0, by rw [gi_nk (by decide), gi_nk (by decide)]; exact M.m0.cd, (M.m0.fr.si (by omega)).si (by omega)⟩ ?_ ?_ K
  · rw [gi_nk (by decide), gi_eq]
  · rw [gi_eq]
    exact M.tk.2.1
theorem LE_sum (ok : gi h 0 19 = 0) (k : WM GM (d + 5) 0 mX8_behindSum [vR (some 0), vI test] h (fun r h' => ∃ u, r = some (vI u) ∧ LE d b Q test u h')) : LE d b Q test 3 h :=
  l_X8_readExpression_20 ⟨fun _ => ⟨fun z => by omega, fun _ => ⟨fun z => by omega, fun _ => ⟨fun z => by omega, fun _ => ⟨fun _ => k, fun z => absurd rfl z⟩⟩⟩⟩, fun z => absurd ok z⟩
theorem LE_tst (ok : gi h 0 19 = 0) (k : WM GM (d + 5) 0 mX8_behindTest [vR (some 0)] h (fun r h' => ∃ u, r = some (vI u) ∧ LE d b Q test u h')) : LE d b Q test 2 h :=
  l_X8_readExpression_20 ⟨fun _ => ⟨fun z => by omega, fun _ => ⟨fun z => by omega, fun _ => ⟨fun z => by omega, fun _ => ⟨fun z => by omega, fun _ => k⟩⟩⟩⟩, fun z => absurd ok z⟩
theorem LE_plain (ok : gi h 0 19 = 0) (k : WM GM (d + 5) 0 mX8_readPlain [vR (some 0)] h (fun r h' => ∃ u, r = some (vI u) ∧ LE d b Q test u h')) : LE d b Q test 0 h :=
  l_X8_readExpression_20 ⟨fun _ => ⟨fun z => by omega, fun _ => ⟨fun _ => k, fun z => absurd rfl z⟩⟩, fun z => absurd ok z⟩
/-- a PART is read, also where a PLAIN begins with it -/
theorem LE_part {t : Int} (M : MS X h0 h i p P dep) (ht : t = 1 ∨ (t = 0 ∧ X.c i ≠ 287 ∧ X.c i ≠ 40)) (k : ∀ d', WM GM (d' + 4) 0 mX8_readPart [vR (some 0)] h (fun r h' => ∃ u, r = some (vI u) ∧ LE d b Q test u h')) : LE d b Q test t h := by
  rcases ht with ht | ⟨ht, c1, c2⟩
  · subst ht
    exact l_X8_readExpression_20 ⟨fun _ => ⟨fun z => by omega, fun _ => ⟨fun z => by omega, fun _ => ⟨fun _ => k (d + 1), fun z => absurd rfl z⟩⟩⟩, fun z => absurd M.ok z⟩
  · subst ht
    have T := M.tk.2.2.2
    refine LE_plain M.ok (w_X8_readPlain ⟨fun c => ?_, fun _ => ⟨fun c => ?_, fun _ => WM_mono (k d) (fun r h' ⟨u, e, l⟩ => ⟨u, e, u, rfl, l⟩)⟩⟩)
    · exact absurd ((T.2.2.2.2.2 29 (by decide)).mpr c) c1
    · exact absurd ((T.2.2.2.2.1 40 (by decide) (by decide) (by decide)).mpr c) c2
end LEs
