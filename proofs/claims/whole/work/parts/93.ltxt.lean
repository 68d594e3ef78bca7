/-! a law that was read is the same on both sides -/
theorem mEv_end {op arg leaf : Int → Int} {last k : Int} {n : Nat} {st : List Int} (h0 : ¬ k < 0) (h1 : ¬ k < last) : mEv op arg leaf last (n + 1) k st = some (some st) := by
  conv => lhs; unfold mEv
  rw [if_neg h0, if_neg h1]
theorem mEv_cc {op arg leaf op' arg' leaf' : Int → Int} {last : Int} (e : ∀ k, 0 ≤ k → k < last → op' k = op k ∧ arg' k = arg k ∧ leaf' k = leaf k) : ∀ (n : Nat) (k : Int) (st : List Int), mEv op' arg' leaf' last n k st = mEv op arg leaf last n k st
  | 0, _, _ => rfl
  | n + 1, k, st => by
    have ih := mEv_cc e n
    unfold mEv
    by_cases h0 : k < 0
    · rw [if_pos h0, if_pos h0]
    · rw [if_neg h0, if_neg h0]
      by_cases h1 : k < last
      · obtain ⟨e1, e2, e3⟩ := e k (by omega) h1
        rw [if_pos h1, if_pos h1, e1, e2, e3]
        simp only [ih]
      · rw [if_neg h1, if_neg h1]
theorem cOp_cc {c c' : Int → Int} (e : ∀ j, 0 ≤ j → j < 898 → c' j = c j) {k : Int} (h : 0 ≤ k ∧ k < 400) : cOp c' k = cOp c k ∧ cArg c' k = cArg c k := ⟨e _ (by omega) (by omega), e _ (by omega) (by omega)⟩
theorem SemEq.cc {m : Int} {steps : Int → Int} {len f s0 s1 : Int} {F : (Int → Int) → Int → Int} {c c' : Int → Int} (e : ∀ j, 0 ≤ j → j < 898 → c' j = c j) (h : s1 ≤ 400) (H : SemEq m steps len f (cOp c) (cArg c) (cLeaf c) F s0 s1) : SemEq m steps len f (cOp c') (cArg c') (cLeaf c') F s0 s1 := by
  intro v hv
  have q := mEv_cc (op := cOp c) (arg := cArg c) (leaf := cLeaf c v) (op' := cOp c') (arg' := cArg c') (leaf' := cLeaf c' v) (last := s1) (fun k k0 k1 => by
    have := cOp_cc e (k := k) (by omega)
    refine ⟨this.1, this.2, ?_⟩
    unfold cLeaf
    rw [this.1, this.2]) 400 s0 []
  rw [q]
  exact H v hv
theorem TstEq.cc {m : Int} {steps : Int → Int} {len f s0 s1 : Int} {F : (Int → Int) → Int → Int} {c c' : Int → Int} (e : ∀ j, 0 ≤ j → j < 898 → c' j = c j) (h : s1 ≤ 400) (H : TstEq m steps len f (cOp c) (cArg c) (cLeaf c) F s0 s1) : TstEq m steps len f (cOp c') (cArg c') (cLeaf c') F s0 s1 := by
  refine ⟨H.1.cc e h, fun v hv w hw => H.2 v hv w ?_⟩
  have q := mEv_cc (op := cOp c) (arg := cArg c) (leaf := cLeaf c v) (op' := cOp c') (arg' := cArg c') (leaf' := cLeaf c' v) (last := s1) (fun k k0 k1 => by
    have := cOp_cc e (k := k) (by omega)
    refine ⟨this.1, this.2, ?_⟩
    unfold cLeaf
    rw [this.1, this.2]) 400 s0 []
  rw [← q]
  exact hw
theorem TxtR.cc {h : AH} {t : Nat} {c c' : Int → Int} (e : ∀ j, 0 ≤ j → j < 898 → c' j = c j) (H : TxtR h t c) : TxtR h t c' := by
  obtain ⟨t1, t2, t3, a, s, na, ns, a1, a2, a3, a4, a5, a6, a7, a8, a9, b1, b2, b3, b4, b5, b6, b7, H⟩ := H
  refine ⟨t1, t2, t3, a, s, na, ns, a1, a2, a3, a4, a5, a6, a7, a8, a9, b1, ?_⟩
  rw [e 1 (by decide) (by decide)]
  refine ⟨b2, b3, b4, b5, b6, b7, fun j j0 j1 => ?_⟩
  obtain ⟨q1, q2, q3, q4⟩ := H j j0 j1
  rw [e _ (by omega) (by omega), e (2 + 8 * j + 3) (by omega) (by omega), e (2 + 8 * j + 4) (by omega) (by omega), e (2 + 8 * j + 5) (by omega) (by omega), e (2 + 8 * j + 6) (by omega) (by omega)]
  refine ⟨q1, fun z => ?_, q3, ?_⟩
  · obtain ⟨p1, p2, p3, p4, p5, p6⟩ := q2 z
    exact ⟨p1, p2, p3, p4, p5, p6.cc e p5⟩
  · rcases q4 with q4 | ⟨p1, p2, p3, p4, p5, p6, p7⟩
    · exact Or.inl q4
    · exact Or.inr ⟨p1, p2, p3, p4, p5, p6, p7.cc e p6⟩
/-- what steps and code mean alike -/
theorem sem_of {s op arg c : Int → Int} {len f k n : Int} {x : Vl} (X : SegX 0 s len f x) (M : MM (fiX 0) (mX 0) op arg k n x) (h4 : n < 400) (V : VB (mX 0) x) (e : ∀ z, k ≤ z → z < n → cOp c z = op z ∧ cArg c z = arg z) : SemEq 11 s len f (cOp c) (cArg c) (cLeaf c) (fun e i => e (i + 1)) k n := by
  intro v hv
  obtain ⟨g, D, X1, X2, X3, X4, X5⟩ := X
  have hF : EnvOk (mX 0) (fun i => v (i + 1)) := fun i i0 => hv (i + 1) (by omega) (by have : mX 0 = 10 := rfl; omega)
  have el : lfM (fiX 0) (cOp c) (cArg c) (fun i => v (i + 1)) = cLeaf c v := by
    funext z
    unfold lfM cLeaf
    by_cases q : cOp c z = 0
    · rw [if_pos q, if_pos q]
    · rw [if_neg q, if_neg q]
      show v (fiX 0 (cOp c z) (cArg c z) + 1) = _
      unfold fiX
      rw [if_pos rfl]
      congr 1
      omega
  have k0 := M.1
  have kn := M.2.1
  have xf := X1.1
  have m := M.2.2.2 (cOp c) (cArg c) e (fun i => v (i + 1)) hF n [] 400 (Int.le_refl _) (by omega)
  have xx := X1.2.2 s (fun _ _ _ => rfl) (fun i => v (i + 1)) hF len [] len.toNat (by omega) (by rw [List.length_nil]; omega) (by omega)
  rw [el] at m
  rcases m with ⟨m1, m2⟩ | ⟨w, f', m1, m2, m3⟩
  · rcases xx with ⟨x1, x2⟩ | ⟨w, f2, x1, x2, x3⟩
    · exact Or.inr ⟨m2, x2⟩
    · rw [m1] at x1
      cases x1
  · rcases xx with ⟨x1, x2⟩ | ⟨w2, f2, x1, x2, x3⟩
    · rw [m1] at x1
      cases x1
    · rw [m1] at x1
      cases x1
      refine Or.inl ⟨w, ?_, ?_, V _ hF w m1⟩
      · rw [m3]
        match f', m2 with
        | 0, m2 => omega
        | f' + 1, m2 => exact mEv_end (by omega) (by omega)
      · rw [x3]
        match f2, x2 with
        | 0, x2 => omega
        | f2 + 1, x2 => exact xEv_stop (by omega) X3
theorem tst_of {s op arg c : Int → Int} {len f k n : Int} {x : Vl} (X : SegX 0 s len f x) (M : MM (fiX 0) (mX 0) op arg k n x) (h4 : n < 400) (V : T01 (mX 0) x) (e : ∀ z, k ≤ z → z < n → cOp c z = op z ∧ cArg c z = arg z) : TstEq 11 s len f (cOp c) (cArg c) (cLeaf c) (fun e i => e (i + 1)) k n := by
  refine ⟨sem_of X M h4 (VB.of01 V) e, fun v hv w hw => ?_⟩
  have hF : EnvOk (mX 0) (fun i => v (i + 1)) := fun i i0 => hv (i + 1) (by omega) (by have : mX 0 = 10 := rfl; omega)
  have el : lfM (fiX 0) (cOp c) (cArg c) (fun i => v (i + 1)) = cLeaf c v := by
    funext z
    unfold lfM cLeaf
    by_cases q : cOp c z = 0
    · rw [if_pos q, if_pos q]
    · rw [if_neg q, if_neg q]
      show v (fiX 0 (cOp c z) (cArg c z) + 1) = _
      unfold fiX
      rw [if_pos rfl]
      congr 1
      omega
  have k0 := M.1
  have kn := M.2.1
  have m := M.2.2.2 (cOp c) (cArg c) e (fun i => v (i + 1)) hF n [] 400 (Int.le_refl _) (by omega)
  rw [el] at m
  rcases m with ⟨m1, m2⟩ | ⟨w2, f', m1, m2, m3⟩
  · rw [m2] at hw
    cases hw
  · rw [m3] at hw
    match f', m2, hw with
    | 0, m2, hw => omega
    | f' + 1, m2, hw =>
      rw [mEv_end (by omega) (by omega)] at hw
      cases hw
      exact V _ hF w m1
theorem SegX.even {mode : Int} {s : Int → Int} {len f : Int} {x : Vl} (X : SegX mode s len f x) (hl : len ≤ 872) : f ≤ 872 := by
  obtain ⟨g, D, X1, X2, X3, X4, X5⟩ := X
  have := X1.1
  omega
/-- one clause -/
theorem cl_txt {C : Cd} {f hd s c : Int → Int} {len n : Int} {r : Rec} (hn : 0 ≤ n ∧ n < 12) (A : ClL C f n r) (B : ClX 0 hd s len n r) (hl : len ≤ 872) (ec : ∀ z, 0 ≤ z → z < C.2.2 → cOp c z = C.1 z ∧ cArg c z = C.2.1 z) (ef : ∀ z, 8 * n ≤ z → z < 8 * n + 8 → c (2 + z) = f z) :
    (0 ≤ c (2 + 8 * n) ∧ c (2 + 8 * n) ≤ 3 ∧ hd (5 * n) = c (2 + 8 * n)) ∧
      (c (2 + 8 * n) < 2 → hd (5 * n + 1) ≠ -1 ∧ hd (5 * n + 1) % 2 = 0 ∧ hd (5 * n + 1) ≤ 872 ∧ 0 ≤ c (2 + 8 * n + 3) ∧ c (2 + 8 * n + 4) ≤ 400 ∧ SemEq 11 s len (hd (5 * n + 1)) (cOp c) (cArg c) (cLeaf c) (fun e i => e (i + 1)) (c (2 + 8 * n + 3)) (c (2 + 8 * n + 4))) ∧
      (2 ≤ c (2 + 8 * n) → hd (5 * n + 1) = -1) ∧
      ((hd (5 * n + 4) = -1 ∧ c (2 + 8 * n + 6) ≤ c (2 + 8 * n + 5)) ∨
        (hd (5 * n + 4) ≠ -1 ∧ hd (5 * n + 4) % 2 = 0 ∧ hd (5 * n + 4) ≤ 872 ∧ c (2 + 8 * n + 5) < c (2 + 8 * n + 6) ∧ 0 ≤ c (2 + 8 * n + 5) ∧ c (2 + 8 * n + 6) ≤ 400 ∧ TstEq 11 s len (hd (5 * n + 4)) (cOp c) (cArg c) (cLeaf c) (fun e i => e (i + 1)) (c (2 + 8 * n + 5)) (c (2 + 8 * n + 6)))) := by
  obtain ⟨a1, ⟨a2, a3⟩, a4, a5⟩ := A
  obtain ⟨b1, b2, b3, b4, b5⟩ := B
  have f0 : c (2 + 8 * n) = f (8 * n) := ef (8 * n) (by omega) (by omega)
  have f3 : c (2 + 8 * n + 3) = f (8 * n + 3) := by rw [← ef (8 * n + 3) (by omega) (by omega)]; congr 1; omega
  have f4 : c (2 + 8 * n + 4) = f (8 * n + 3 + 1) := by rw [← ef (8 * n + 3 + 1) (by omega) (by omega)]; congr 1; omega
  have f5 : c (2 + 8 * n + 5) = f (8 * n + 5) := by rw [← ef (8 * n + 5) (by omega) (by omega)]; congr 1; omega
  have f6 : c (2 + 8 * n + 6) = f (8 * n + 5 + 1) := by rw [← ef (8 * n + 5 + 1) (by omega) (by omega)]; congr 1; omega
  rw [f0, f3, f4, f5, f6, a1]
  refine ⟨⟨a2.1, a2.2, b1⟩, fun z => ?_, fun z => ?_, ?_⟩
  · obtain ⟨x, ex⟩ := Option.ne_none_iff_exists'.mp (a3.1 z)
    rw [ex] at a4 b2
    obtain ⟨p1, p2, p3, p4⟩ := a4
    obtain ⟨⟨w1, w2⟩, w3, w4⟩ := b2
    have := p4.2.1
    exact ⟨by omega, w2, w3.even hl, p1, by omega, sem_of w3 p4 (by omega) w4 (fun z z0 z1 => ec z (by omega) (by omega))⟩
  · have := a3.2 z
    rw [this] at b2
    exact b2
  · match hr : r.2.2.2.2 with
    | none =>
      rw [hr] at a5 b5
      exact Or.inl ⟨b5, Int.le_of_eq a5⟩
    | some x =>
      rw [hr] at a5 b5
      obtain ⟨p1, p2, p3, p4⟩ := a5
      obtain ⟨⟨w1, w2⟩, w3, w4⟩ := b5
      have := p4.2.1
      exact Or.inr ⟨by omega, w2, w3.even hl, this, p1, by omega, tst_of w3 p4 (by omega) w4 (fun z z0 z1 => ec z (by omega) (by omega))⟩
