/-! a law is granted: both sides' texts begin and end, the law's row -/
theorem SegX.ext0 {mode : Int} {s s' : Int → Int} {len f : Int} {x : Vl} (H : SegX mode s len f x) (e : ∀ k, 0 ≤ k → k < len → s' k = s k) : SegX mode s' len f x := by
  obtain ⟨g, D, h1, h2, h3, h4, h5⟩ := H
  have := h1.1
  exact ⟨g, D, h1.congr (fun k _ k1 => e k (by omega) (by omega)), h2, (e g (by omega) (by omega)).trans h3, (e (g + 1) (by omega) (by omega)).trans h4, h5⟩
theorem StX.ext0 {mode : Int} {s s' : Int → Int} {len v v' : Int} {o : Option Vl} {tt : Vl → Prop} (H : StX mode s len v o tt) (e : ∀ k, 0 ≤ k → k < len → s' k = s k) (hv : v' = v) : StX mode s' len v' o tt := by
  subst hv
  match o, H with
  | none, H => exact H
  | some x, H => exact ⟨H.1, H.2.1.ext0 e, H.2.2⟩
theorem ClX.ext0 {mode : Int} {hd hd' s s' : Int → Int} {len n : Int} {r : Rec} (H : ClX mode hd s len n r) (e : ∀ k, 0 ≤ k → k < len → s' k = s k) (eh : ∀ k, 0 ≤ k → k < 5 → hd' (5 * n + k) = hd (5 * n + k)) : ClX mode hd' s' len n r := by
  have e0 := eh 0 (by decide) (by decide)
  rw [Int.add_zero] at e0
  exact ⟨e0.trans H.1, H.2.1.ext0 e (eh 1 (by decide) (by decide)), H.2.2.1.ext0 e (eh 2 (by decide) (by decide)), (eh 3 (by decide) (by decide)).trans H.2.2.2.1, H.2.2.2.2.ext0 e (eh 4 (by decide) (by decide))⟩
/-- row r with one law more -/
theorem InvC.cc {c c' : Int → Int} (H : InvC c) (e : ∀ j, 0 ≤ j → j < 898 → c' j = c j) : InvC c' := fun k k0 k1 => by
  have := cOp_cc e (k := k) ⟨k0, k1⟩
  rw [this.1, this.2]
  exact H k k0 k1
theorem InvR.law {r r' : Int → Int} (H : InvR r) (e : ∀ k, k ≠ 3 → k < 140 → r' k = r k) (e3 : r' 3 = r 3 + 1) (h3 : r 3 < 6) (c : ∀ i, 0 ≤ i → i < 6 → InvC (lawC r' i)) : InvR r' := by
  obtain ⟨h1, h2, h4, h5, h6, h7, h8⟩ := H
  have E : ∀ k, (k < 3 ∨ 3 < k) → k < 140 → r' k = r k := fun k a b => e k (by omega) b
  have e0 := E 0 (by omega) (by omega)
  have e1 := E 1 (by omega) (by omega)
  have e2 := E 2 (by omega) (by omega)
  have e4 := E 4 (by omega) (by omega)
  have e5 := E 5 (by omega) (by omega)
  have e6 := E 6 (by omega) (by omega)
  refine ⟨by rw [e0, e1, e2, e3, e4, e5, e6]; omega, fun d d0 d1 => ?_, fun d f d0 d1 d2 d3 => ?_, fun z z0 z1 => ?_, fun z z0 z1 => ?_, fun z z0 z1 => ?_, c⟩
  · rw [e1] at d1
    rw [e0, E (7 + d) (by omega) (by omega), E (15 + d) (by omega) (by omega), E (23 + d) (by omega) (by omega), E (31 + d) (by omega) (by omega), E (72 + d) (by omega) (by omega), E (80 + d) (by omega) (by omega), E (88 + d) (by omega) (by omega), E (96 + d) (by omega) (by omega)]
    exact h2 d d0 d1
  · rw [e1] at d2
    rw [E (7 + d) (by omega) (by omega), E (7 + f) (by omega) (by omega)] at d3
    rw [E (7 + d) (by omega) (by omega)]
    exact h4 d f d0 d1 d2 d3
  · rw [E (39 + z) (by omega) (by omega), E (104 + z) (by omega) (by omega)]
    exact h5 z z0 z1
  · rw [e0] at z1
    rw [E (64 + z) (by omega) (by omega)]
    exact h6 z z0 z1
  · rw [e2] at z1
    rw [E (129 + z) (by omega) (by omega)]
    exact h7 z z0 z1
/-! the reference opens and shuts a text -/
section TEXT
variable {d b : Nat} {Q : Option AV → AH → Prop} {X : Txt} {h : AH}
theorem c_beginText {m : Int} (L : LxOK X) (em : X.mode = m) (hm : m = 0 ∨ m = 1) (e13 : gi h 0 13 = X.n) (e9 : ∀ x, 0 ≤ x → x < X.n → gi h 9 x = X.T x) (tb : TabM h) (K : ∀ h', St0 X h' → FrR (si h 0 20 m) h' → Q none h') : WM GM (d + 3) b mX8_beginText [vR (some 0), vI m] h Q := by
  refine w_X8_beginText ⟨hm, fun h1 z1 => ?_⟩
  refine w_X8_begin (fun h2 z2 h3 z3 h4 z4 => ?_)
  have F0 : FrR h1 h4 := by
    rw [z4, z3, z2]
    exact (((FrP.rfl'.si (by omega)).si (by omega)).si (by omega)).r
  have n0 := L.n0
  have f15 : gi h4 0 15 = 0 := by rw [z4, z3, z2, gi_nk (by decide), gi_nk (by decide), gi_eq]
  have f19 : gi h4 0 19 = 0 := by rw [z4, z3, gi_nk (by decide), gi_eq]
  have f18 : gi h4 0 18 = -1 := by rw [z4, gi_eq]
  have T4 : TapeM X h1 := by
    rw [z1]
    exact ⟨(gi_nk (by decide)).trans e13, fun x x0 x1 => (gi_no (by decide)).trans (e9 x x0 x1), gi_eq.trans em.symm, tb⟩
  have t4 := T4.frR F0
  refine c_X8_next (T := X.T) (n := X.n) t4.2.1 L.by_ ⟨t4.1, n0⟩ (by rw [f15]; omega) (fun h5 F f1 f2 f3 => ⟨rfl, rfl, fun h6 z6 h7 z7 h8 z8 => ?_⟩)
  rw [f15, ← L.p0] at f1 f2 f3
  have F5 : FrR h5 h8 := by
    rw [z8, z7, z6]
    exact ((FrR.rfl'.si (Or.inr (Or.inr ⟨rfl, rfl⟩))).trans (FrP.rfl'.si (by omega)).r).trans (FrP.rfl'.si (by omega)).r
  have k : ∀ z : Int, z ≠ 21 → z ≠ 23 → z ≠ 26 → gi h8 0 z = gi h5 0 z := fun z a1 a2 a3 => by rw [z8, z7, z6, gi_nk a3, gi_nk a2, gi_nk a1]
  have e23 : gi h8 0 23 = 0 := by rw [z8, z7, gi_nk (by decide), gi_eq]
  have m1 := L.m1
  refine K h8 ⟨⟨?_, ⟨by omega, ?_, ⟨?_, ?_⟩, ?_⟩, ?_, by decide, ⟨by omega, Or.inr ⟨rfl, e23⟩, fun z z0 z1 => ?_⟩, (t4.fr F.p).frR F5⟩, ?_, e23⟩ ?_
  · rw [k 19 (by decide) (by decide) (by decide), F.1 _ _ (by omega)]
    exact f19
  · rw [k 14 (by decide) (by decide) (by decide)]
    exact f1
  · rw [k 15 (by decide) (by decide) (by decide)]
    exact f2
  · rw [k 18 (by decide) (by decide) (by decide), F.1 _ _ (by omega)]
    exact f18
  · refine Tk.fr f3 (k 16 (by decide) (by decide) (by decide)) ?_
    rw [z8, z7, z6]
    rfl
  · rw [z8, gi_eq]
  · have : z < gi h8 0 23 := z1
    omega
  · rw [z8, z7, z6, gi_nk (by decide), gi_nk (by decide), gi_eq]
  · rw [← z1]
    exact (F0.trans F.p.r).trans F5
theorem c_endOk (e19 : gi h 0 19 = 0) (e16 : gi h 0 16 = 0) (K : Q none (si (si h 0 20 0) 0 13 0)) : WM GM (d + 3) b mX8_endText [vR (some 0)] h Q :=
  w_X8_endText ⟨fun _ => ⟨fun _ => l_X8_endText_19 (fun h1 e1 h2 e2 => by subst e2 e1; exact K), fun z => absurd e16 z⟩, fun z => absurd e19 z⟩
theorem c_endBad {j : Int} (B : (gi h 0 19 = 1 ∧ gi h 0 18 = X.pl j) ∨ ∃ p, MC X h j p ∧ X.c j ≠ -1) (K : ∀ h', FrR h h' → gi h' 0 19 = 1 → gi h' 0 18 = X.pl j → Q none (si (si h' 0 20 0) 0 13 0)) : WM GM (d + 3) b mX8_endText [vR (some 0)] h Q := by
  rcases B with ⟨e1, e2⟩ | ⟨p, M, hc⟩
  · exact w_X8_endText ⟨fun z => by omega, fun _ => l_X8_endText_19 (fun h1 z1 h2 z2 => by subst z2 z1; exact K h FrR.rfl' e1 e2)⟩
  · have e16 : ¬ gi h 0 16 = 0 := fun z => hc (M.2.1.2.2.2.2.1.mpr z)
    refine w_X8_endText ⟨fun _ => ⟨fun z => absurd z e16, fun _ => ?_⟩, fun z => absurd M.1 z⟩
    refine M.must0 (fun h1 F f1 f2 => ⟨rfl, ?_⟩)
    exact l_X8_endText_19 (fun h2 z2 h3 z3 => by subst z3 z2; exact K h1 F.r f1 f2)
/-! the law goes into the row -/
def Lw (a h : AH) (l g : Int) : Prop := (∀ q x, ¬ (q = 2 ∧ l ≤ x ∧ x < g) → gi h q x = gi a q x) ∧ ∀ q x, gl h q x = gl a q x
theorem Lw.trans {a b c : AH} {l g : Int} (x : Lw a b l g) (y : Lw b c l g) : Lw a c l g := ⟨fun q k z => (y.1 q k z).trans (x.1 q k z), fun q k => (y.2 q k).trans (x.2 q k)⟩
theorem Lw.si {a b : AH} {l g : Int} (x : Lw a b l g) {i v : Int} (hi : l ≤ i ∧ i < g) : Lw a (si b 2 i v) l g := ⟨fun q k z => (gi_ne (by omega)).trans (x.1 q k z), x.2⟩
theorem Lw.wide {a b : AH} {l g l' g' : Int} (x : Lw a b l g) (h1 : l' ≤ l) (h2 : g ≤ g') : Lw a b l' g' := ⟨fun q k z => x.1 q k (by omega), x.2⟩
theorem lp_law1 {a : AH} {B n : Int} (e21 : gi a 0 21 = n) (hn : 0 ≤ n ∧ n ≤ 12) (hB : 140 ≤ B ∧ B ≤ 4640) (K : ∀ h', Lw a h' (B + 2) (B + 98) → (∀ z, 0 ≤ z → z < 8 * n → gi h' 2 (B + 2 + z) = gi a 10 z) → Lp_X8_law_146 d b Q B 0 h') : ∀ (f : Nat) (k : Int) (h : AH), k + f = 8 * n → 0 ≤ k → Lw a h (B + 2) (B + 98) → (∀ z, 0 ≤ z → z < k → gi h 2 (B + 2 + z) = gi a 10 z) → Lp_X8_law_111 d b Q B k h
  | 0, k, h, e, k0, W, I => by
    have e' : gi h 0 21 = n := (W.1 _ _ (by omega)).trans e21
    refine l_X8_law_111 ?_
    rw [e']
    have : k = 8 * n := by omega
    subst this
    exact ⟨by omega, fun _ => K h W I, fun z => absurd (Int.le_refl _) z⟩
  | f + 1, k, h, e, k0, W, I => by
    have e' : gi h 0 21 = n := (W.1 _ _ (by omega)).trans e21
    refine l_X8_law_111 ?_
    rw [e']
    refine ⟨by omega, fun z => by omega, fun _ => ⟨by omega, by omega, by omega, by omega, fun h1 z1 => ⟨by omega, ?_⟩⟩⟩
    subst z1
    refine lp_law1 e21 hn hB K f (k + 1) _ (by omega) (by omega) (W.si (by omega)) (fun z z0 z1 => ?_)
    by_cases c : z = k
    · subst c
      rw [gi_eq]
      exact W.1 _ _ (by omega)
    · rw [gi_nk (by omega)]
      exact I z z0 (by omega)
theorem lp_law2 {a : AH} {B c : Int} (e23 : gi a 0 23 = c) (hc : 0 ≤ c ∧ c ≤ 400) (hB : 140 ≤ B ∧ B ≤ 4640) (h3 : 0 ≤ gi a 2 3 ∧ gi a 2 3 ≤ 5) (b7 : ∀ i : Int, 0 ≤ i → i < 7 → 0 ≤ gi a 1 i ∧ gi a 1 i ≤ 1000000) (K : ∀ h', Lw a h' (B + 98) (B + 98 + 2 * c) → (∀ z, 0 ≤ z → z < c → gi h' 2 (B + 98 + 2 * z) = gi a 11 z ∧ gi h' 2 (B + 98 + 2 * z + 1) = gi a 12 z) → Q (some (vI (gi a 2 3))) (mTell (si h' 2 3 (gi a 2 3 + 1)) (gi a 2 3))) : ∀ (f : Nat) (k : Int) (h : AH), k + f = c → 0 ≤ k → Lw a h (B + 98) (B + 98 + 2 * c) → (∀ z, 0 ≤ z → z < k → gi h 2 (B + 98 + 2 * z) = gi a 11 z ∧ gi h 2 (B + 98 + 2 * z + 1) = gi a 12 z) → Lp_X8_law_146 d b Q B k h
  | 0, k, h, e, k0, W, I => by
    have e' : gi h 0 23 = c := (W.1 _ _ (by omega)).trans e23
    have e3 : gi h 2 3 = gi a 2 3 := W.1 _ _ (by omega)
    refine l_X8_law_146 ?_
    rw [e', e3]
    have : k = c := by omega
    subst this
    refine ⟨fun _ => ⟨by omega, fun h1 z1 => ⟨by omega, by omega, fun i i0 i1 => ?_, fun h2 z2 => ?_⟩⟩, fun z => absurd (Int.le_refl _) z⟩
    · rw [z1, gi_no (by decide), W.1 _ _ (by omega)]
      exact b7 i i0 i1
    · have := K h W I
      rw [← z1] at this
      rw [z2, show gi a 2 3 + 1 - 1 = gi a 2 3 by omega]
      exact this
  | f + 1, k, h, e, k0, W, I => by
    have e' : gi h 0 23 = c := (W.1 _ _ (by omega)).trans e23
    have e3 : gi h 2 3 = gi a 2 3 := W.1 _ _ (by omega)
    refine l_X8_law_146 ?_
    rw [e']
    refine ⟨fun z => by omega, fun _ => ⟨by omega, by omega, by omega, by omega, by omega, fun h1 z1 => ⟨by omega, by omega, by omega, by omega, by omega, by omega, fun h2 z2 => ⟨by omega, ?_⟩⟩⟩⟩
    subst z2 z1
    refine lp_law2 e23 hc hB h3 b7 K f (k + 1) _ (by omega) (by omega) ((W.si (by omega)).si (by omega)) (fun z z0 z1 => ?_)
    by_cases ck : z = k
    · subst ck
      rw [gi_eq, gi_nk (by omega), gi_eq]
      exact ⟨W.1 _ _ (by omega), W.1 _ _ (by omega)⟩
    · rw [gi_nk (by omega), gi_nk (by omega), gi_nk (by omega), gi_nk (by omega)]
      exact I z z0 (by omega)
end TEXT
