/-! deeds: what they make of the row -/
/-- all but what E tells stays -/
def FrX (E : Nat → Int → Prop) (a b : AH) : Prop := (∀ q k, ¬ E q k → gi b q k = gi a q k) ∧ rf b = rf a ∧ kd b = kd a ∧ hn b = hn a
theorem FrX.rfl' {E : Nat → Int → Prop} {a : AH} : FrX E a a := ⟨fun _ _ _ => rfl, rfl, rfl, rfl⟩
theorem FrX.trans {E : Nat → Int → Prop} {a b c : AH} (x : FrX E a b) (y : FrX E b c) : FrX E a c := ⟨fun q k z => (y.1 q k z).trans (x.1 q k z), y.2.1.trans x.2.1, y.2.2.1.trans x.2.2.1, y.2.2.2.trans x.2.2.2⟩
theorem FrX.wi {E : Nat → Int → Prop} {a b : AH} (x : FrX E a b) {q : Nat} {i v : Int} (h : E q i) : FrX E a (si b q i v) := x.trans ⟨fun q' k z => by
  rw [gi_si, if_neg]
  rintro ⟨e1, e2⟩
  exact z (by rw [e1, e2]; exact h), rfl, rfl, rfl⟩
theorem FrX.wc {E : Nat → Int → Prop} {a b : AH} (x : FrX E a b) {s t : Nat} {i j n : Int} (h : ∀ k, j ≤ k → k < j + n → E t k) : FrX E a (cpy b s i t j n) := x.trans ⟨fun q' k z => by
  rw [gi_cpy, if_neg]
  rintro ⟨e1, e2, e3⟩
  exact z (by rw [e1]; exact h k e2 e3), rfl, rfl, rfl⟩
theorem FrX.mono {E E' : Nat → Int → Prop} {a b : AH} (x : FrX E a b) (h : ∀ q k, E q k → E' q k) : FrX E' a b := ⟨fun q k z => x.1 q k (fun w => z (h q k w)), x.2⟩
theorem JX.fr {a b : AH} (x : JX a b) : FrX (fun q _ => q = 39 ∨ q = 40) a b := ⟨fun q k z => x.1 q k (fun w => z (Or.inl w)) (fun w => z (Or.inr w)), x.2⟩
theorem FrX.dyn {E : Nat → Int → Prop} {a b : AH} (x : FrX E a b) (h : ∀ q k, E q k → q < 76) : DynX a b := ⟨Nat.le_of_eq x.2.2.2.symm, fun q h1 _ => ⟨by rw [x.2.2.1], fun k => x.1 q k (fun w => by have := h q k w; omega), fun k => by rw [x.2.1]⟩⟩
def EI (o : Nat) (q : Nat) (_ : Int) : Prop := (o ≤ q ∧ q ≤ o + 12) ∨ q = 39 ∨ q = 40
theorem EI_77 {o : Nat} (ho : isl o) : ∀ q k, EI o q k → q < 76 := fun q k h => by
  unfold EI at h
  rcases ho with z | z | z | z <;> omega
/-- what a deed's reckoning may change in the reference -/
def TS (a b : AH) : Prop := (∀ q k, ¬ (q = 2 ∨ (q = 0 ∧ (k = 34 ∨ k = 38))) → gi b q k = gi a q k) ∧ ∀ q k, q ≠ 18 → q ≠ 20 → (q ≠ 0 ∨ k = 54) → gl b q k = gl a q k
theorem TS.rfl' {a : AH} : TS a a := ⟨fun _ _ _ => rfl, fun _ _ _ _ _ => rfl⟩
theorem TS.trans {a b c : AH} (x : TS a b) (y : TS b c) : TS a c := ⟨fun q k z => (y.1 q k z).trans (x.1 q k z), fun q k z w u => (y.2 q k z w u).trans (x.2 q k z w u)⟩
theorem TS.w2 {a b : AH} (x : TS a b) {k v : Int} : TS a (si b 2 k v) := x.trans ⟨fun q' j z => by rw [gi_si, if_neg (fun e => z (Or.inl e.1))], fun _ _ _ _ _ => rfl⟩
theorem TL.ts {a b : AH} (x : TL a b) : TS a b := ⟨fun q k z => x.1 q k (fun w => z (Or.inr w)), x.2⟩
theorem LawK.to {a b : AH} (L : LawK a) (h20 : gi b 0 20 = gi a 0 20) (V : InvR (gi b 2)) (h4 : gi b 2 4 = gi a 2 4) (hc : ∀ j, 140 ≤ j → gi b 2 j = gi a 2 j) : LawK b := by
  refine ⟨h20.trans L.1, V, fun z => ?_⟩
  rw [h4] at z ⊢
  have I1 := L.2.1.1
  rw [lawC_eq (r := gi a 2) (by omega) hc]
  exact L.2.2 z
/-! rows -/
theorem up1_up1 {r : Int → Int} {k v w : Int} : up1 (up1 r k v) k w = up1 r k w := by
  funext j
  unfold up1
  split <;> rfl
def loseR (r : Int → Int) (d : Int) : Int → Int := up1 (up1 r (15 + d) (-1)) (31 + d) 1
def launchR (r : Int → Int) (d : Int) : Int → Int := up1 (up1 r (7 + d) (-1)) (15 + d) 0
def fishR (r : Int → Int) (d its : Int) : Int → Int := up1 (up1 r (23 + d) (min (r (23 + d) + its) 999)) (39 + r (15 + d)) (r (39 + r (15 + d)) - its)
def hangR (r : Int → Int) (d h : Int) : Int → Int := up1 (up1 (up1 r (15 + d) (-1)) (7 + d) h) (23 + d) 0
def tdD : Nat → Int → (Int → Int) → (Int → Int)
  | 0, _, r => r
  | n + 1, d, r => if r (15 + d) = -1 then tdD n (d + 1) r else if zbes (r (15 + d)) (r (104 + r (15 + d))) = -1 then tdD n (d + 1) (loseR r d) else tdD n (d + 1) (up1 r (15 + d) (zbes (r (15 + d)) (r (104 + r (15 + d)))))
def tdN : Nat → Int → (Int → Int) → Int
  | 0, _, _ => 0
  | n + 1, d, r => if r (15 + d) = -1 then tdN n (d + 1) r else if zbes (r (15 + d)) (r (104 + r (15 + d))) = -1 then 1 + tdN n (d + 1) (loseR r d) else tdN n (d + 1) (up1 r (15 + d) (zbes (r (15 + d)) (r (104 + r (15 + d)))))
def tdC : Nat → Int → (Int → Int) → (Int → Int)
  | 0, _, r => r
  | n + 1, c, r => tdC n (c + 1) (up1 r (39 + c) (min (r (39 + c) + 1) 99))
def tideR (r : Int → Int) : Int → Int := let r1 := tdC 25 0 (tdD (r 1).toNat 0 r); up1 r1 5 (r1 5 + 1)
def tideN (r : Int → Int) : Int := tdN (r 1).toNat 0 r
/-- rows alike but where deeds write -/
def Out (r r' : Int → Int) : Prop := ∀ k, k < 5 ∨ k = 6 ∨ 64 ≤ k → r' k = r k
theorem Out.rfl' {r : Int → Int} : Out r r := fun _ _ => rfl
theorem Out.trans {a b c : Int → Int} (x : Out a b) (y : Out b c) : Out a c := fun k h => (y k h).trans (x k h)
theorem Out.up {a b : Int → Int} (x : Out a b) {k v : Int} (h : k = 5 ∨ (7 ≤ k ∧ k < 64)) : Out a (up1 b k v) := x.trans (fun j hj => up1_ne (by omega))
/-- but where deeds and days write: 5 stays too -/
theorem InvR.sea {r : Int → Int} (V : InvR r) {d v : Int} (hd : 0 ≤ d ∧ d < r 1) (hs : r (15 + d) ≠ -1) (hv : 0 ≤ v ∧ v < 25) : InvR (up1 r (15 + d) v) := by
  have V1 := V.1
  refine ⟨?_, ?_, ?_, ?_, ?_, ?_, ?_⟩
  · simp (disch := omega) only [up1_ne, up1_eq]
    omega
  · intro e e0 e1
    simp (disch := omega) only [up1_ne, up1_eq] at e1
    by_cases c : e = d
    · subst c
      have q := V.2.1 e e0 (by omega)
      simp (disch := omega) only [up1_ne, up1_eq]
      omega
    · simp (disch := omega) only [up1_ne, up1_eq]
      exact V.2.1 e e0 (by omega)
  · intro e f e0 e1 e2
    simp (disch := omega) only [up1_ne, up1_eq] at e2
    simp (disch := omega) only [up1_ne, up1_eq]
    exact V.2.2.1 e f e0 e1 (by omega)
  · intro e e0 e1
    simp (disch := omega) only [up1_ne, up1_eq]
    exact V.2.2.2.1 e e0 e1
  · intro e e0 e1
    simp (disch := omega) only [up1_ne, up1_eq] at e1
    simp (disch := omega) only [up1_ne, up1_eq]
    exact V.2.2.2.2.1 e e0 (by omega)
  · intro e e0 e1
    simp (disch := omega) only [up1_ne, up1_eq] at e1
    simp (disch := omega) only [up1_ne, up1_eq]
    exact V.2.2.2.2.2.1 e e0 (by omega)
  · intro i i0 i1
    rw [lawC_eq (r := r) i0 (fun j hj => by simp (disch := omega) only [up1_ne])]
    exact V.2.2.2.2.2.2 i i0 i1
theorem InvR.lose {r : Int → Int} (V : InvR r) {d : Int} (hd : 0 ≤ d ∧ d < r 1) (hs : r (15 + d) ≠ -1) : InvR (loseR r d) := by
  have V1 := V.1
  unfold loseR
  refine ⟨?_, ?_, ?_, ?_, ?_, ?_, ?_⟩
  · simp (disch := omega) only [up1_ne, up1_eq]
    omega
  · intro e e0 e1
    simp (disch := omega) only [up1_ne, up1_eq] at e1
    by_cases c : e = d
    · subst c
      have q := V.2.1 e e0 (by omega)
      simp (disch := omega) only [up1_ne, up1_eq, or_true, true_or, true_and, and_true]
      omega
    · simp (disch := omega) only [up1_ne, up1_eq]
      exact V.2.1 e e0 (by omega)
  · intro e f e0 e1 e2
    simp (disch := omega) only [up1_ne, up1_eq] at e2
    simp (disch := omega) only [up1_ne, up1_eq]
    exact V.2.2.1 e f e0 e1 (by omega)
  · intro e e0 e1
    simp (disch := omega) only [up1_ne, up1_eq]
    exact V.2.2.2.1 e e0 e1
  · intro e e0 e1
    simp (disch := omega) only [up1_ne, up1_eq] at e1
    simp (disch := omega) only [up1_ne, up1_eq]
    exact V.2.2.2.2.1 e e0 (by omega)
  · intro e e0 e1
    simp (disch := omega) only [up1_ne, up1_eq] at e1
    simp (disch := omega) only [up1_ne, up1_eq]
    exact V.2.2.2.2.2.1 e e0 (by omega)
  · intro i i0 i1
    rw [lawC_eq (r := r) i0 (fun j hj => by simp (disch := omega) only [up1_ne])]
    exact V.2.2.2.2.2.2 i i0 i1
theorem InvR.launch {r : Int → Int} (V : InvR r) {d : Int} (hd : 0 ≤ d ∧ d < r 1) (hs : r (7 + d) ≠ -1) : InvR (launchR r d) := by
  have V1 := V.1
  unfold launchR
  refine ⟨?_, ?_, ?_, ?_, ?_, ?_, ?_⟩
  · simp (disch := omega) only [up1_ne, up1_eq]
    omega
  · intro e e0 e1
    simp (disch := omega) only [up1_ne, up1_eq] at e1
    by_cases c : e = d
    · subst c
      have q := V.2.1 e e0 (by omega)
      simp (disch := omega) only [up1_ne, up1_eq, or_true, true_or, true_and, and_true]
      omega
    · simp (disch := omega) only [up1_ne, up1_eq]
      exact V.2.1 e e0 (by omega)
  · intro e f e0 e1 e2
    simp (disch := omega) only [up1_ne, up1_eq] at e2
    by_cases c : e = d
    · subst c
      simp (disch := omega) only [up1_ne, up1_eq]
      exact fun _ => trivial
    · by_cases c2 : f = d
      · subst c2
        simp (disch := omega) only [up1_ne, up1_eq]
        exact fun z => z
      · simp (disch := omega) only [up1_ne, up1_eq]
        exact V.2.2.1 e f e0 e1 (by omega)
  · intro e e0 e1
    simp (disch := omega) only [up1_ne, up1_eq]
    exact V.2.2.2.1 e e0 e1
  · intro e e0 e1
    simp (disch := omega) only [up1_ne, up1_eq] at e1
    simp (disch := omega) only [up1_ne, up1_eq]
    exact V.2.2.2.2.1 e e0 (by omega)
  · intro e e0 e1
    simp (disch := omega) only [up1_ne, up1_eq] at e1
    simp (disch := omega) only [up1_ne, up1_eq]
    exact V.2.2.2.2.2.1 e e0 (by omega)
  · intro i i0 i1
    rw [lawC_eq (r := r) i0 (fun j hj => by simp (disch := omega) only [up1_ne])]
    exact V.2.2.2.2.2.2 i i0 i1
theorem InvR.caught {r : Int → Int} (V : InvR r) {d v : Int} (hd : 0 ≤ d ∧ d < r 1) (hs : r (15 + d) ≠ -1) (hv : 0 ≤ v ∧ v ≤ 999) : InvR (up1 r (23 + d) v) := by
  have V1 := V.1
  refine ⟨?_, ?_, ?_, ?_, ?_, ?_, ?_⟩
  · simp (disch := omega) only [up1_ne, up1_eq]
    omega
  · intro e e0 e1
    simp (disch := omega) only [up1_ne, up1_eq] at e1
    by_cases c : e = d
    · subst c
      have q := V.2.1 e e0 (by omega)
      simp (disch := omega) only [up1_ne, up1_eq]
      omega
    · simp (disch := omega) only [up1_ne, up1_eq]
      exact V.2.1 e e0 (by omega)
  · intro e f e0 e1 e2
    simp (disch := omega) only [up1_ne, up1_eq] at e2
    simp (disch := omega) only [up1_ne, up1_eq]
    exact V.2.2.1 e f e0 e1 (by omega)
  · intro e e0 e1
    simp (disch := omega) only [up1_ne, up1_eq]
    exact V.2.2.2.1 e e0 e1
  · intro e e0 e1
    simp (disch := omega) only [up1_ne, up1_eq] at e1
    simp (disch := omega) only [up1_ne, up1_eq]
    exact V.2.2.2.2.1 e e0 (by omega)
  · intro e e0 e1
    simp (disch := omega) only [up1_ne, up1_eq] at e1
    simp (disch := omega) only [up1_ne, up1_eq]
    exact V.2.2.2.2.2.1 e e0 (by omega)
  · intro i i0 i1
    rw [lawC_eq (r := r) i0 (fun j hj => by simp (disch := omega) only [up1_ne])]
    exact V.2.2.2.2.2.2 i i0 i1
theorem InvR.hangs {r : Int → Int} (V : InvR r) {d x : Int} (hd : 0 ≤ d ∧ d < r 1) (hs : r (15 + d) ≠ -1) (hx : 0 ≤ x ∧ x < r 0) (ho : ∀ e, 0 ≤ e → e < r 1 → r (7 + e) ≠ x) : InvR (hangR r d x) := by
  have V1 := V.1
  unfold hangR
  refine ⟨?_, ?_, ?_, ?_, ?_, ?_, ?_⟩
  · simp (disch := omega) only [up1_ne, up1_eq]
    omega
  · intro e e0 e1
    simp (disch := omega) only [up1_ne, up1_eq] at e1
    by_cases c : e = d
    · subst c
      have q := V.2.1 e e0 (by omega)
      simp (disch := omega) only [up1_ne, up1_eq]
      refine ⟨by omega, by omega, by omega, by omega, by omega, by omega, by first | omega | exact Or.inr trivial, Or.inr ⟨by omega, by omega⟩, by omega, by omega, by omega, by omega, by omega, by omega, by omega, by omega, by first | omega | exact Or.inr trivial⟩
    · simp (disch := omega) only [up1_ne, up1_eq]
      exact V.2.1 e e0 (by omega)
  · intro e f e0 e1 e2
    simp (disch := omega) only [up1_ne, up1_eq] at e2
    by_cases c : e = d
    · subst c
      have := ho f (by omega) e2
      simp (disch := omega) only [up1_ne, up1_eq]
      omega
    · by_cases c2 : f = d
      · subst c2
        have := ho e e0 (by omega)
        simp (disch := omega) only [up1_ne, up1_eq]
        omega
      · simp (disch := omega) only [up1_ne, up1_eq]
        exact V.2.2.1 e f e0 e1 (by omega)
  · intro e e0 e1
    simp (disch := omega) only [up1_ne, up1_eq]
    exact V.2.2.2.1 e e0 e1
  · intro e e0 e1
    simp (disch := omega) only [up1_ne, up1_eq] at e1
    simp (disch := omega) only [up1_ne, up1_eq]
    exact V.2.2.2.2.1 e e0 (by omega)
  · intro e e0 e1
    simp (disch := omega) only [up1_ne, up1_eq] at e1
    simp (disch := omega) only [up1_ne, up1_eq]
    exact V.2.2.2.2.2.1 e e0 (by omega)
  · intro i i0 i1
    rw [lawC_eq (r := r) i0 (fun j hj => by simp (disch := omega) only [up1_ne])]
    exact V.2.2.2.2.2.2 i i0 i1
theorem InvR.fishes {r : Int → Int} (V : InvR r) {d its : Int} (hd : 0 ≤ d ∧ d < r 1) (hs : r (15 + d) ≠ -1) (hi : 0 ≤ its ∧ its ≤ r (39 + r (15 + d))) : InvR (fishR r d its) := by
  have V1 := V.1
  have q := V.2.1 d hd.1 hd.2
  have qc : 0 ≤ r (15 + d) ∧ r (15 + d) < 25 ∧ 0 ≤ r (23 + d) := by omega
  have qf := V.2.2.2.1 (r (15 + d)) qc.1 qc.2.1
  unfold fishR
  exact (V.caught hd hs (by omega)).fish ⟨qc.1, qc.2.1⟩ (by omega)
