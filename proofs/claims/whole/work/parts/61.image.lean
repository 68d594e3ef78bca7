/-! images: a row elsewhere; an isle copied whole -/
theorem mEv_same {op op' arg arg' leaf leaf' : Int → Int} {last : Int} (hl : ∀ j, 0 ≤ j → j < last → op' j = op j ∧ arg' j = arg j ∧ leaf' j = leaf j) : ∀ (n : Nat) (k : Int) (st : List Int), mEv op' arg' leaf' last n k st = mEv op arg leaf last n k st
  | 0, _, _ => rfl
  | n + 1, k, st => by
    have ih := mEv_same hl n
    unfold mEv
    by_cases h1 : k < 0
    · rw [if_pos h1, if_pos h1]
    rw [if_neg h1, if_neg h1]
    by_cases h2 : k < last
    · rw [if_pos h2, if_pos h2]
      obtain ⟨e1, e2, e3⟩ := hl k (by omega) h2
      rw [e1, e2, e3]
      simp only [ih]
    · rw [if_neg h2, if_neg h2]
theorem mEv_sameC {c c' e : Int → Int} {s1 : Int} (h : ∀ j, 0 ≤ j → j < 900 → c' j = c j) (hs : s1 ≤ 400) (n : Nat) (k : Int) (st : List Int) : mEv (cOp c') (cArg c') (cLeaf c' e) s1 n k st = mEv (cOp c) (cArg c) (cLeaf c e) s1 n k st :=
  mEv_same (fun j j0 j1 => by
    have a : c' (98 + 2 * j) = c (98 + 2 * j) := h _ (by omega) (by omega)
    have b : c' (98 + 2 * j + 1) = c (98 + 2 * j + 1) := h _ (by omega) (by omega)
    unfold cLeaf cOp cArg
    rw [a, b]
    exact ⟨rfl, rfl, rfl⟩) n k st
theorem SemEq.same {m len f s0 s1 : Int} {steps : Int → Int} {F : (Int → Int) → Int → Int} {c c' : Int → Int} (S : SemEq m steps len f (cOp c) (cArg c) (cLeaf c) F s0 s1) (h : ∀ j, 0 ≤ j → j < 900 → c' j = c j) (hs : s1 ≤ 400) : SemEq m steps len f (cOp c') (cArg c') (cLeaf c') F s0 s1 := by
  intro e he
  rw [mEv_sameC h hs]
  exact S e he
theorem TstEq.same {m len f s0 s1 : Int} {steps : Int → Int} {F : (Int → Int) → Int → Int} {c c' : Int → Int} (S : TstEq m steps len f (cOp c) (cArg c) (cLeaf c) F s0 s1) (h : ∀ j, 0 ≤ j → j < 900 → c' j = c j) (hs : s1 ≤ 400) : TstEq m steps len f (cOp c') (cArg c') (cLeaf c') F s0 s1 := by
  refine ⟨S.1.same h hs, fun e he v hv => ?_⟩
  rw [mEv_sameC h hs] at hv
  exact S.2 e he v hv
theorem TxtR.same {h : AH} {t : Nat} {c c' : Int → Int} (H : TxtR h t c) (e : ∀ j, 0 ≤ j → j < 900 → c' j = c j) : TxtR h t c' := by
  obtain ⟨h1, h2, h3, a, s, na, ns, a1, a2, a3, a4, a5, a6, a7, a8, a9, b1, b2, b3, b4, b5, b6, b7, b8⟩ := H
  have e1 : c' 1 = c 1 := e 1 (by decide) (by decide)
  refine ⟨h1, h2, h3, a, s, na, ns, a1, a2, a3, a4, a5, a6, a7, a8, a9, b1, by rw [e1]; exact b2, by rw [e1]; exact b3, by rw [e1]; exact b4, b5, by rw [e1]; exact b6, b7, fun j j0 j1 => ?_⟩
  rw [e1] at j1
  obtain ⟨q1, q2, q3, q4⟩ := b8 j j0 j1
  rw [e (2 + 8 * j) (by omega) (by omega), e (2 + 8 * j + 3) (by omega) (by omega), e (2 + 8 * j + 4) (by omega) (by omega), e (2 + 8 * j + 5) (by omega) (by omega), e (2 + 8 * j + 6) (by omega) (by omega)]
  refine ⟨q1, fun z => ?_, q3, ?_⟩
  · obtain ⟨w1, w2, w3, w4, w5, w6⟩ := q2 z
    exact ⟨w1, w2, w3, w4, w5, w6.same e w5⟩
  · rcases q4 with q4 | ⟨w1, w2, w3, w4, w5, w6, w7⟩
    · exact Or.inl q4
    · exact Or.inr ⟨w1, w2, w3, w4, w5, w6, w7.same e w6⟩
theorem InvR.same {r r' : Int → Int} (V : InvR r) (e : ∀ k, 0 ≤ k → k < 5540 → r' k = r k) : InvR r' := by
  obtain ⟨v1, v2, v3, v4, v5, v6, v7⟩ := V
  have e0 := e 0 (by decide) (by decide)
  have e1 := e 1 (by decide) (by decide)
  have e2 := e 2 (by decide) (by decide)
  have e3 := e 3 (by decide) (by decide)
  have e4 := e 4 (by decide) (by decide)
  have e5 := e 5 (by decide) (by decide)
  have e6 := e 6 (by decide) (by decide)
  unfold InvR
  rw [e0, e1, e2, e3, e4, e5, e6]
  refine ⟨v1, fun d d0 d1 => ?_, fun d f d0 d1 d2 => ?_, fun c c0 c1 => ?_, fun k k0 k1 => ?_, fun k k0 k1 => ?_, fun i i0 i1 k k0 k1 => ?_⟩
  · rw [e (7 + d) (by omega) (by omega), e (15 + d) (by omega) (by omega), e (23 + d) (by omega) (by omega), e (31 + d) (by omega) (by omega), e (72 + d) (by omega) (by omega), e (80 + d) (by omega) (by omega), e (88 + d) (by omega) (by omega), e (96 + d) (by omega) (by omega)]
    exact v2 d d0 d1
  · rw [e (7 + d) (by omega) (by omega), e (7 + f) (by omega) (by omega)]
    exact v3 d f d0 d1 d2
  · rw [e (39 + c) (by omega) (by omega), e (104 + c) (by omega) (by omega)]
    exact v4 c c0 c1
  · rw [e (64 + k) (by omega) (by omega)]
    exact v5 k k0 k1
  · rw [e (129 + k) (by omega) (by omega)]
    exact v6 k k0 k1
  · have := v7 i i0 i1 k k0 k1
    unfold cOp cArg at this ⊢
    rw [lawC_at (by omega), lawC_at (by omega)] at this ⊢
    rw [e _ (by omega) (by omega), e _ (by omega) (by omega)]
    exact this
theorem RA.same {h : AH} {o : Nat} {r r' : Int → Int} (A : RA h o r) (e : ∀ k, 0 ≤ k → k < 5540 → r' k = r k) : RA h o r' := by
  refine ⟨fun k hk => ?_, ⟨fun i h0 h1 => ?_, A.2.1.2⟩, A.2.2.same e⟩
  · rw [e k (by unfold okP at hk; omega) (by unfold okP at hk; omega)]
    exact A.1 k hk
  · have I1 := A.2.2.1
    rw [e 3 (by decide) (by decide)] at h1
    obtain ⟨t, q1, q2⟩ := A.2.1.1 i h0 h1
    refine ⟨t, q1, q2.same (fun j j0 j1 => ?_)⟩
    rw [lawC_at j0, lawC_at j0]
    exact e _ (by omega) (by omega)
/-- all but an isle stays -/
def FrC (o : Nat) (a b : AH) : Prop := (∀ q k, ¬ (o ≤ q ∧ q ≤ o + 12) → gi b q k = gi a q k) ∧ (∀ q k, q ≠ o + 12 → rf b q k = rf a q k) ∧ kd b = kd a ∧ hn b = hn a
theorem FrC.rfl' {o : Nat} {a : AH} : FrC o a a := ⟨fun _ _ _ => rfl, fun _ _ _ => rfl, rfl, rfl⟩
theorem FrC.trans {o : Nat} {a b c : AH} (x : FrC o a b) (y : FrC o b c) : FrC o a c := ⟨fun q k z => (y.1 q k z).trans (x.1 q k z), fun q k z => (y.2.1 q k z).trans (x.2.1 q k z), y.2.2.1.trans x.2.2.1, y.2.2.2.trans x.2.2.2⟩
theorem FrC.wi {o : Nat} {a b : AH} (x : FrC o a b) {c : Nat} {i v : Int} (hc : c ≤ 12) : FrC o a (si b (o + c) i v) := x.trans ⟨fun q k z => gi_ne (Or.inl (by omega)), fun _ _ _ => rfl, rfl, rfl⟩
theorem FrC.wc {o : Nat} {a b : AH} (x : FrC o a b) {c s : Nat} {i j n : Int} (hc : c ≤ 12) : FrC o a (cpy b s i (o + c) j n) := x.trans ⟨fun q k z => cpy_out (Or.inl (by omega)), fun _ _ _ => rfl, rfl, rfl⟩
theorem FrC.dyn {o : Nat} {a b : AH} (x : FrC o a b) (ho : isl o) : DynX a b := by
  have : o + 12 < 76 := by rcases ho with z | z | z | z <;> omega
  exact ⟨Nat.le_of_eq x.2.2.2.symm, fun q h1 _ => ⟨by rw [x.2.2.1], fun k => x.1 q k (by omega), fun k => x.2.1 q k (by omega)⟩⟩
theorem lp_copyL {dd b : Nat} {Q : Option AV → AH → Prop} {o p : Nat} {h0 : AH} (ho : isl o) (hp : isl p) (hne : o ≠ p) (ht : ∀ i t, 0 ≤ i → i < 6 → rf h0 (p + 12) i = some t → t < hn h0 ∧ kd h0 t = .inl 5) (k : ∀ h', gi h' = gi h0 → FrC o h0 h' → (∀ j, 0 ≤ j → j < 6 → rf h' (o + 12) j = rf h0 (p + 12) j) → Q none h') : ∀ (n : Nat) (i : Int) (h : AH), 0 ≤ i → i + n = 6 → gi h = gi h0 → FrC o h0 h → (∀ j, 0 ≤ j → j < i → rf h (o + 12) j = rf h0 (p + 12) j) → Lp_X0_copyFrom_223 dd b Q o p i h
  | 0, i, h, i0, e, eg, F, hj => l_X0_copyFrom_223 ho hp ⟨fun _ => k h eg F (fun j j0 j1 => hj j j0 (by omega)), fun z => by omega⟩
  | n + 1, i, h, i0, e, eg, F, hj => by
    have er : rf h (p + 12) i = rf h0 (p + 12) i := F.2.1 _ _ (by omega)
    refine l_X0_copyFrom_223 ho hp ⟨fun z => by omega, fun _ => ⟨by omega, by omega, fun t ht' => ?_, fun h1 e1 => ⟨by omega, ?_⟩⟩⟩
    · rw [er] at ht'
      obtain ⟨q1, q2⟩ := ht i t i0 (by omega) ht'
      exact Or.inr ⟨by rw [F.2.2.1]; exact q2, by rw [F.2.2.2]; exact q1⟩
    · rw [er] at e1
      refine lp_copyL ho hp hne ht k n (i + 1) h1 (by omega) (by omega) (by rw [e1]; exact eg) (F.trans ?_) (fun j j0 j1 => ?_)
      · rw [e1]
        exact ⟨fun _ _ _ => rfl, fun q k z => by rw [rf_sr, if_neg (fun w => z w.1)], rfl, rfl⟩
      · rw [e1, rf_sr]
        by_cases c : j = i
        · rw [if_pos ⟨rfl, c⟩, c]
        · rw [if_neg (fun w => c w.2)]
          exact hj j j0 (by omega)
theorem c_X0_copyFrom {dd b : Nat} {Q : Option AV → AH → Prop} {h : AH} {o p : Nat} {r : Int → Int} (ho : isl o) (hp : isl p) (hne : o ≠ p) (A : RA h p r) (hQ : ∀ h', RA h' o r → FrC o h h' → Q none h') : WM GX (dd + 1) b mX0_copyFrom [vR (some o), vR (some p)] h Q := by
  have dis : o + 13 ≤ p ∨ p + 13 ≤ o := by
    rcases ho with z | z | z | z <;> rcases hp with w | w | w | w <;> omega
  refine w_X0_copyFrom ho hp ?_
  intro h1 e1 h2 e2 h3 e3 h4 e4 h5 e5 h6 e6 h7 e7 h8 e8 h9 e9 h10 e10 h11 e11 h12 e12 h13 e13 h14 e14 h15 e15 h16 e16 h17 e17 h18 e18
  have F : FrC o h h18 := by
    have F1 : FrC o h h1 := by rw [e1]; exact FrC.rfl'.wi (c := 0) (by decide)
    have F2 : FrC o h h2 := by rw [e2]; exact F1.wi (c := 0) (by decide)
    have F3 : FrC o h h3 := by rw [e3]; exact F2.wi (c := 0) (by decide)
    have F4 : FrC o h h4 := by rw [e4]; exact F3.wi (c := 0) (by decide)
    have F5 : FrC o h h5 := by rw [e5]; exact F4.wi (c := 0) (by decide)
    have F6 : FrC o h h6 := by rw [e6]; exact F5.wi (c := 0) (by decide)
    have F7 : FrC o h h7 := by rw [e7]; exact F6.wi (c := 0) (by decide)
    have F8 : FrC o h h8 := by rw [e8]; exact F7.wc (by decide)
    have F9 : FrC o h h9 := by rw [e9]; exact F8.wc (by decide)
    have F10 : FrC o h h10 := by rw [e10]; exact F9.wc (by decide)
    have F11 : FrC o h h11 := by rw [e11]; exact F10.wc (by decide)
    have F12 : FrC o h h12 := by rw [e12]; exact F11.wc (by decide)
    have F13 : FrC o h h13 := by rw [e13]; exact F12.wc (by decide)
    have F14 : FrC o h h14 := by rw [e14]; exact F13.wc (by decide)
    have F15 : FrC o h h15 := by rw [e15]; exact F14.wc (by decide)
    have F16 : FrC o h h16 := by rw [e16]; exact F15.wc (by decide)
    have F17 : FrC o h h17 := by rw [e17]; exact F16.wc (by decide)
    rw [e18]
    exact F17.wc (by decide)
  have f0 : gi h18 o 0 = gi h p 0 ∧ gi h18 o 2 = gi h p 2 ∧ gi h18 o 12 = gi h p 12 ∧ gi h18 o 14 = gi h p 14 ∧ gi h18 o 15 = gi h p 15 ∧ gi h18 o 16 = gi h p 16 ∧ gi h18 o 18 = gi h p 18 := by
    clear hQ A F
    subst e18 e17 e16 e15 e14 e13 e12 e11 e10 e9 e8 e7 e6 e5 e4 e3 e2 e1
    simp (disch := omega) only [cpy_out, gi_ne, gi_eq, and_self]
  have f8 : ∀ j, 0 ≤ j → j < 8 → gi h18 (o + 1) j = gi h (p + 1) j ∧ gi h18 (o + 2) j = gi h (p + 2) j ∧ gi h18 (o + 3) j = gi h (p + 3) j ∧ gi h18 (o + 4) j = gi h (p + 4) j ∧ gi h18 (o + 5) j = gi h (p + 5) j ∧ gi h18 (o + 6) j = gi h (p + 6) j ∧ gi h18 (o + 7) j = gi h (p + 7) j ∧ gi h18 (o + 8) j = gi h (p + 8) j ∧ gi h18 (o + 11) j = gi h (p + 11) j := by
    intro j j0 j1
    clear hQ A F f0
    have ej : (0 : Int) + (j - 0) = j := by omega
    subst e18 e17 e16 e15 e14 e13 e12 e11 e10 e9 e8 e7 e6 e5 e4 e3 e2 e1
    simp (disch := omega) only [cpy_out, cpy_in, gi_ne, ej, and_self]
  have f25 : ∀ j, 0 ≤ j → j < 25 → gi h18 (o + 9) j = gi h (p + 9) j ∧ gi h18 (o + 10) j = gi h (p + 10) j := by
    intro j j0 j1
    clear hQ A F f0 f8
    have ej : (0 : Int) + (j - 0) = j := by omega
    subst e18 e17 e16 e15 e14 e13 e12 e11 e10 e9 e8 e7 e6 e5 e4 e3 e2 e1
    simp (disch := omega) only [cpy_out, cpy_in, gi_ne, ej, and_self]
  clear e1 e2 e3 e4 e5 e6 e7 e8 e9 e10 e11 e12 e13 e14 e15 e16 e17 e18
  have er : ∀ i, rf h18 (p + 12) i = rf h (p + 12) i := fun i => F.2.1 _ _ (by omega)
  refine lp_copyL (h0 := h18) ho hp hne (fun i t i0 i1 ht => ?_) (fun h' eg F' hr => ?_) 6 0 h18 (by decide) (by decide) rfl FrC.rfl' (fun j j0 j1 => by omega)
  · rw [er] at ht
    obtain ⟨-, q2, q3⟩ := A.2.1.2 i t i0 i1 ht
    exact ⟨by rw [F.2.2.2]; exact q2, by rw [F.2.2.1]; exact q3⟩
  have FF := F.trans F'
  have I1 := A.2.2.1
  refine hQ h' ⟨fun k hk => ?_, ⟨fun i i0 i1 => ?_, fun i t i0 i1 ht => ?_⟩, A.2.2⟩ FF
  · have a := A.1 k hk
    rw [a, eg]
    clear a
    have hk' := hk
    unfold okP at hk'
    by_cases c7 : k < 7
    · have : k = 0 ∨ k = 1 ∨ k = 2 ∨ k = 3 ∨ k = 4 ∨ k = 5 ∨ k = 6 := by omega
      rcases this with z | z | z | z | z | z | z <;> subst z
      · exact f0.1.symm
      · exact f0.2.1.symm
      · exact f0.2.2.1.symm
      · exact f0.2.2.2.2.2.1.symm
      · exact f0.2.2.2.2.2.2.symm
      · exact f0.2.2.2.1.symm
      · exact f0.2.2.2.2.1.symm
    by_cases c15 : k < 15
    · have w := la_7 (c := k - 7) (by omega)
      rw [show 7 + (k - 7) = k by omega] at w
      rw [w.1, w.2]
      exact (f8 _ (by omega) (by omega)).2.2.2.2.2.1.symm
    by_cases c23 : k < 23
    · have w := la_15 (c := k - 15) (by omega)
      rw [show 15 + (k - 15) = k by omega] at w
      rw [w.1, w.2]
      exact (f8 _ (by omega) (by omega)).2.2.2.2.2.2.1.symm
    by_cases c31 : k < 31
    · have w := la_23 (c := k - 23) (by omega)
      rw [show 23 + (k - 23) = k by omega] at w
      rw [w.1, w.2]
      exact (f8 _ (by omega) (by omega)).2.2.2.2.2.2.2.1.symm
    by_cases c64 : k < 64
    · have w := la_39 (c := k - 39) (by omega)
      rw [show 39 + (k - 39) = k by omega] at w
      rw [w.1, w.2]
      exact (f25 _ (by omega) (by omega)).1.symm
    by_cases c72 : k < 72
    · have w := la_64 (c := k - 64) (by omega)
      rw [show 64 + (k - 64) = k by omega] at w
      rw [w.1, w.2]
      exact (f8 _ (by omega) (by omega)).1.symm
    by_cases c80 : k < 80
    · have w := la_72 (c := k - 72) (by omega)
      rw [show 72 + (k - 72) = k by omega] at w
      rw [w.1, w.2]
      exact (f8 _ (by omega) (by omega)).2.1.symm
    by_cases c88 : k < 88
    · have w := la_80 (c := k - 80) (by omega)
      rw [show 80 + (k - 80) = k by omega] at w
      rw [w.1, w.2]
      exact (f8 _ (by omega) (by omega)).2.2.1.symm
    by_cases c96 : k < 96
    · have w := la_88 (c := k - 88) (by omega)
      rw [show 88 + (k - 88) = k by omega] at w
      rw [w.1, w.2]
      exact (f8 _ (by omega) (by omega)).2.2.2.1.symm
    by_cases c104 : k < 104
    · have w := la_96 (c := k - 96) (by omega)
      rw [show 96 + (k - 96) = k by omega] at w
      rw [w.1, w.2]
      exact (f8 _ (by omega) (by omega)).2.2.2.2.1.symm
    by_cases c129 : k < 129
    · have w := la_104 (c := k - 104) (by omega)
      rw [show 104 + (k - 104) = k by omega] at w
      rw [w.1, w.2]
      exact (f25 _ (by omega) (by omega)).2.symm
    · have w := la_129 (c := k - 129) (by omega)
      rw [show 129 + (k - 129) = k by omega] at w
      rw [w.1, w.2]
      exact (f8 _ (by omega) (by omega)).2.2.2.2.2.2.2.2.symm
  · obtain ⟨t, q1, q2⟩ := A.2.1.1 i i0 i1
    refine ⟨t, ?_, q2.dyn (FF.dyn ho)⟩
    rw [hr i i0 (by omega), er]
    exact q1
  · rw [hr i i0 i1, er] at ht
    obtain ⟨q1, q2, q3⟩ := A.2.1.2 i t i0 i1 ht
    exact ⟨q1, by rw [FF.2.2.2]; exact q2, by rw [FF.2.2.1]; exact q3⟩
