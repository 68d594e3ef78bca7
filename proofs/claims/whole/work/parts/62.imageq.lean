/-! image, back -/
/-- the relation where the isle changed as a whole, and nothing can be undone -/
theorem RRs.clear {n : Nat} {hX hX' hM hM' : AH} (S : RRs n hX hM) (ra : RA hX' 1 (gi hM' 2)) (dy : DynX hX hX') (F : (∀ q k, ¬ eRX q k → gi hX' q k = gi hX q k) ∧ ∀ q k, q ≠ 13 → rf hX' q k = rf hX q k) (G : FrM eRM hM hM') (hu : gi hX' 41 1 = 0 ∧ gi hM' 0 8 = 0) (ht : gi hX' 29 1 = gi hM' 0 13 ∧ 0 ≤ gi hM' 0 13 ∧ gi hM' 0 13 ≤ 400) (hf : gi hX' 0 10 = gi hM' 0 11) : RRs n hX' hM' := by
  obtain ⟨h1, h2, h3, h4, ⟨b1, b2, b3, b4, b6, b7, b8⟩, h6, h7⟩ := S
  have x : ∀ q k, 14 ≤ q → q ≠ 29 → q ≠ 39 → q ≠ 40 → q ≠ 41 → gi hX' q k = gi hX q k := fun q k a1 a2 a3 a4 a5 => F.1 q k (by unfold eRX; omega)
  have x0 : ∀ k, k ≠ 10 → k ≠ 14 → gi hX' 0 k = gi hX 0 k := fun k a1 a2 => F.1 0 k (by unfold eRX; omega)
  have m : ∀ q k, q ≠ 0 → q ≠ 2 → gi hM' q k = gi hM q k := fun q k a0 a1 => G.1 q k (by unfold eRM; omega)
  have m0 : ∀ k, k ≠ 0 → k ≠ 1 → k ≠ 8 → k ≠ 11 → k ≠ 13 → gi hM' 0 k = gi hM 0 k := fun k a0 a1 a2 a3 a4 => G.1 0 k (by unfold eRM; omega)
  refine ⟨ra, RU.none hu.1 hu.2,
    h3.to (fun k => x _ _ (by omega) (by omega) (by omega) (by omega) (by omega)) (fun q a b k => x _ _ (by omega) (by omega) (by omega) (by omega) (by omega)) dy (fun q a b k => F.2 q k (by omega)) (fun k => m _ _ (by omega) (by omega)) (fun k => m _ _ (by omega) (by omega)),
    h4.to (x0 _ (by omega) (by omega)) (fun q a b k => x _ _ (by omega) (by omega) (by omega) (by omega) (by omega)) (fun k => x _ _ (by omega) (by omega) (by omega) (by omega) (by omega)) (m0 _ (by omega) (by omega) (by omega) (by omega) (by omega)) (fun k => m _ _ (by omega) (by omega)) (fun k => m _ _ (by omega) (by omega)),
    ⟨⟨ht.1, ht.2.1, ht.2.2, fun i i0 i1 => ?_⟩, ?_, hf, ?_, ?_, fun k k0 k1 => ?_, b8⟩,
    h6.to (m0 _ (by omega) (by omega) (by omega) (by omega) (by omega)) (fun q z k => G.2 q k (by omega) (by omega) (by omega)), Nat.le_trans h7 dy.1⟩
  · rw [x 30 _ (by omega) (by omega) (by omega) (by omega) (by omega), m 9 _ (by omega) (by omega)]
    exact b1.2.2.2 i i0 i1
  · rw [x 31 _ (by omega) (by omega) (by omega) (by omega) (by omega), m0 18 (by omega) (by omega) (by omega) (by omega) (by omega)]
    exact b2
  · rw [x0 11 (by omega) (by omega), m0 52 (by omega) (by omega) (by omega) (by omega) (by omega)]
    exact b4
  · simp only [x 14 _ (by omega) (by omega) (by omega) (by omega) (by omega), m 1 _ (show (1 : Nat) ≠ 0 by decide) (show (1 : Nat) ≠ 2 by decide)]
    exact b6
  · rw [m 1 _ (by omega) (by omega)]
    exact b7 k k0 k1
theorem lp_imageM {dd b : Nat} {Q : Option AV → AH → Prop} {h : AH} {k : Int} (hk : 0 ≤ k ∧ k < 2) (b7 : ∀ i : Int, 0 ≤ i → i < 7 → 0 ≤ gi h 1 i ∧ gi h 1 i ≤ 1000000) (hQ : Q (some (vI 0)) (mTell (si (cpy h 2 0 3 (5540 * k) 5540) 4 k 1) 0)) : ∀ (n : Nat) (i : Int), 0 ≤ i → i + n = 5540 → Lp_X8_image_23 dd b Q k i (cpy h 2 0 3 (5540 * k) i)
  | 0, i, i0, e => by
    have : i = 5540 := by omega
    subst this
    refine l_X8_image_23 ⟨fun _ => ⟨hk, fun h1 e1 => ⟨by decide, fun j j0 j1 => ?_, fun h2 e2 => ?_⟩⟩, fun z => by omega⟩
    · rw [e1, gi_ne (by omega), cpy_out (by omega)]
      exact b7 j j0 j1
    · subst e2 e1
      exact hQ
  | n + 1, i, i0, e => by
    refine l_X8_image_23 ⟨fun z => by omega, fun _ => ⟨by omega, by omega, by omega, by omega, fun h1 e1 => ⟨by omega, ?_⟩⟩⟩
    have w := cpy_s (h := h) (a := 2) (b := 3) (s := 0) (dp := 5540 * k) i0
    rw [Int.zero_add] at w
    rw [cpy_out (by omega), w] at e1
    subst e1
    exact lp_imageM hk b7 hQ n (i + 1) (by omega) (by omega)
theorem lp_backM {dd b : Nat} {Q : Option AV → AH → Prop} {h : AH} {k : Int} (hk : 0 ≤ k ∧ k < 2) (b7 : ∀ i : Int, 0 ≤ i → i < 7 → 0 ≤ gi h 1 i ∧ gi h 1 i ≤ 1000000) (hQ : Q (some (vI 0)) (mTell (si (cpy h 3 (5540 * k) 2 0 5540) 0 8 0) 0)) : ∀ (n : Nat) (i : Int), 0 ≤ i → i + n = 5540 → Lp_X8_back_39 dd b Q k i (cpy h 3 (5540 * k) 2 0 i)
  | 0, i, i0, e => by
    have : i = 5540 := by omega
    subst this
    refine l_X8_back_39 ⟨fun _ => ⟨by decide, fun j j0 j1 => ?_, fun h2 e2 => ?_⟩, fun z => by omega⟩
    · rw [cpy_out (by omega)]
      exact b7 j j0 j1
    · subst e2
      exact hQ
  | n + 1, i, i0, e => by
    refine l_X8_back_39 ⟨fun z => by omega, fun _ => ⟨by omega, by omega, by omega, by omega, fun h1 e1 => ⟨by omega, ?_⟩⟩⟩
    have w := cpy_s (h := h) (a := 3) (b := 2) (s := 5540 * k) (dp := 0) i0
    rw [Int.zero_add] at w
    rw [cpy_out (by omega), w] at e1
    subst e1
    exact lp_backM hk b7 hQ n (i + 1) (by omega) (by omega)
theorem q_image {n dx dm : Nat} {hX hM : AH} {Q : Option AV → AH → Prop} {x1 : Int} (R : RR n hX hM) (hn : n < 512) (hQ : ∀ rx hX', WM GM (dm + 1) 0 mX8_image [vR (some 0), vI x1] hM (fun rm hM' => RQ n rx rm hX' hM') → Q rx hX') : WM GX (dx + 2) 0 mX7_image [vR (some 0), vI x1] hX Q := by
  have S := R.s.same SameX.rfl' (km0 (h := hM)).1
  have bad : ¬ (0 ≤ x1 ∧ x1 ≤ 1) → (∀ i : Int, 0 ≤ i → i < 5 → 0 ≤ gi hX 14 i ∧ gi hX 14 i ≤ 1000000) ∧ ∀ h1, h1 = xRef hX (-1) → Q (some (vI (-1))) h1 := fun c => ⟨S.b5, fun h1 e1 => by
    subst e1
    refine hQ _ _ (w_X8_image fun _ h1 e1 => ⟨fun z => absurd z c, fun _ => ⟨by decide, ?_, fun h2 e2 => ?_⟩⟩)
    · subst e1
      exact S.b7
    · subst e2 e1
      exact RQ.mk rfl (S.ref hn (by omega))⟩
  refine w_X7_image fun _ => ⟨fun c => bad (by omega), fun c => ⟨fun c2 => ?_, fun c2 => bad (by omega)⟩⟩
  have hx : x1 = 0 ∨ x1 = 1 := by omega
  obtain ⟨K, ek⟩ : ∃ K : Nat, x1 = K := ⟨x1.toNat, by omega⟩
  have hK : K < 2 := by omega
  have eK : Int.toNat x1 = K := by omega
  have ho : isl (50 + 13 * K) := by
    rcases hx with z | z
    · have : K = 0 := by omega
      subst this
      decide
    · have : K = 1 := by omega
      subst this
      decide
  rw [eK]
  refine ⟨hx, Or.inl (gx_isl ho), ?_⟩
  refine c_X0_copyFrom ho (by decide) (by omega) R.1 (fun h2 B F => ⟨rfl, by omega, fun h3 e3 h4 e4 => ?_⟩)
  subst e4
  refine hQ _ _ (w_X8_image fun _ g1 w1 => ⟨fun _ => ?_, fun z => by omega⟩)
  have w := lp_imageM (dd := dm) (b := 0) (Q := fun rm hM' => RQ n (some (vI 0)) rm (si h3 0 14 0) hM') (h := g1) (k := x1) (by omega) (by rw [w1]; exact S.b7) ?_ 5540 0 (by decide) (by decide)
  · rw [cpy_0] at w
    exact w
  have G : ∀ q k, ¬ (q = 3 ∧ 5540 * x1 ≤ k ∧ k < 5540 * x1 + 5540) → q ≠ 4 ∨ k ≠ x1 → gi (si (cpy g1 2 0 3 (5540 * x1) 5540) 4 x1 1) q k = gi g1 q k := fun q k z w => by
    rw [gi_ne (by omega), cpy_out (by omega)]
  have G1 : ∀ q k, gi g1 q k = gi (si hM 0 0 0) q k := fun q k => by rw [w1]
  have er : gi (si (cpy g1 2 0 3 (5540 * x1) 5540) 4 x1 1) 2 = gi hM 2 := funext fun k => by rw [G _ _ (by omega) (by omega), w1, gi_ne (by omega)]
  have F3 : ∀ q k, ¬ (50 + 13 * K ≤ q ∧ q ≤ 50 + 13 * K + 12) → ¬ (q = 15 ∧ k = x1) → gi h3 q k = gi hX q k := fun q k z w => by
    rw [e3, gi_ne (by omega)]
    exact F.1 q k z
  have dy : DynX hX h3 := by
    rw [e3]
    exact (F.dyn ho).si (by decide)
  obtain ⟨s1, s2, s3, s4, s5, s6, s7⟩ := S
  have T : RRs n h3 (si (cpy g1 2 0 3 (5540 * x1) 5540) 4 x1 1) := by
    refine ⟨?_, s2.to (F3 _ _ (by omega) (by omega)) (fun k => F3 _ _ (by omega) (by omega)) ?_ (fun k => ?_) (fun k => ?_) (by rw [er, gi_ne (by omega)]) (fun u z => ?_), fun j hj => ?_,
      s4.to (F3 _ _ (by omega) (by omega)) (fun q a b k => F3 _ _ (by omega) (by omega)) (fun k => F3 _ _ (by omega) (by omega)) ?_ (fun k => ?_) (fun k => ?_),
      s5.to (F3 _ _ (by omega) (by omega)) (fun k => F3 _ _ (by omega) (by omega)) (F3 _ _ (by omega) (by omega)) (F3 _ _ (by omega) (by omega)) (F3 _ _ (by omega) (by omega)) (fun k => F3 _ _ (by omega) (by omega)) ?_ (fun k => ?_) ?_ ?_ ?_ (fun k => ?_),
      s6.to ?_ (fun q z k => ?_), Nat.le_trans s7 dy.1⟩
    · rw [er]
      refine R.1.to (fun c hc k => F3 _ _ (by omega) (by omega)) dy (fun i => ?_)
      rw [e3]
      show rf h2 _ i = _
      exact F.2.1 _ _ (by omega)
    · rw [G _ _ (by omega) (by omega), G1]
    · rw [G _ _ (by omega) (by omega), G1]
    · rw [G _ _ (by omega) (by omega), G1]
    · rw [er]
      rw [gi_o (by decide)] at z
      exact z
    · by_cases c : j = K
      · subst c
        have e15 : gi h3 15 (j : Int) = 1 := by rw [e3, ← ek, gi_eq]
        have e4 : gi (si (cpy g1 2 0 3 (5540 * x1) 5540) 4 x1 1) 4 (j : Int) = 1 := by rw [← ek, gi_eq]
        refine ⟨by rw [e15, e4], Or.inr ⟨e4, ?_⟩⟩
        have B' : RA h3 (50 + 13 * j) (gi hM 2) := by
          rw [e3]
          exact B.to (fun c hc k => gi_ne (by omega)) (DynX.rfl'.si (by decide)) (fun _ => rfl)
        refine B'.same (fun k k0 k1 => ?_)
        rw [gi_ne (by omega), ← ek, cpy_in (by omega), w1, gi_ne (by omega)]
        congr 1
        omega
      · obtain ⟨a1, a2⟩ := s3 j hj
        have e15 : gi h3 15 (j : Int) = gi hX 15 j := F3 _ _ (by omega) (by omega)
        have e4 : gi (si (cpy g1 2 0 3 (5540 * x1) 5540) 4 x1 1) 4 (j : Int) = gi (si hM 0 0 0) 4 j := by rw [G _ _ (by omega) (by omega), G1]
        rw [e15, e4]
        refine ⟨a1, a2.imp_right fun a3 => ⟨a3.1, ?_⟩⟩
        have B' : RA h3 (50 + 13 * j) (fun i => gi (si hM 0 0 0) 3 (5540 * j + i)) := a3.2.to (fun c hc k => F3 _ _ (by omega) (by omega)) dy (fun i => by
          rw [e3]
          show rf h2 _ i = _
          exact F.2.1 _ _ (by omega))
        refine B'.same (fun k k0 k1 => ?_)
        show gi (si (cpy g1 2 0 3 (5540 * x1) 5540) 4 x1 1) 3 (5540 * j + k) = gi (si hM 0 0 0) 3 (5540 * j + k)
        rw [G _ _ (by omega) (by omega), G1]
    · rw [G _ _ (by omega) (by omega), G1]
    · rw [G _ _ (by omega) (by omega), G1]
    · rw [G _ _ (by omega) (by omega), G1]
    · rw [G _ _ (by omega) (by omega), G1]
    · rw [G _ _ (by omega) (by omega), G1]
    · rw [G _ _ (by omega) (by omega), G1]
    · rw [G _ _ (by omega) (by omega), G1]
    · rw [G _ _ (by omega) (by omega), G1]
    · rw [G _ _ (by omega) (by omega), G1]
    · rw [G _ _ (by omega) (by omega), G1]
    · rw [w1]
      rfl
  exact RQ.mk rfl (T.ok hn (by decide))
theorem q_back {n dx dm : Nat} {hX hM : AH} {Q : Option AV → AH → Prop} {x1 : Int} (R : RR n hX hM) (hn : n < 512) (hQ : ∀ rx hX', WM GM (dm + 2) 0 mX8_back [vR (some 0), vI x1] hM (fun rm hM' => RQ n rx rm hX' hM') → Q rx hX') : WM GX (dx + 2) 0 mX7_back [vR (some 0), vI x1] hX Q := by
  have S := R.s.same SameX.rfl' (km0 (h := hM)).1
  have bad : ¬ (0 ≤ x1 ∧ x1 ≤ 1) → (∀ i : Int, 0 ≤ i → i < 5 → 0 ≤ gi hX 14 i ∧ gi hX 14 i ≤ 1000000) ∧ ∀ h1, h1 = xRef hX (-1) → Q (some (vI (-1))) h1 := fun c => ⟨S.b5, fun h1 e1 => by
    subst e1
    refine hQ _ _ (w_X8_back fun _ h1 e1 => ⟨fun z => absurd z c, fun _ => ⟨by decide, ?_, fun h2 e2 => ?_⟩⟩)
    · subst e1
      exact S.b7
    · subst e2 e1
      exact RQ.mk rfl (S.ref hn (by omega))⟩
  refine w_X7_back fun _ => ⟨fun c => bad (by omega), fun c => ⟨fun c2 => ?_, fun c2 => bad (by omega)⟩⟩
  have hx : x1 = 0 ∨ x1 = 1 := by omega
  obtain ⟨K, ek⟩ : ∃ K : Nat, x1 = K := ⟨x1.toNat, by omega⟩
  have hK : K < 2 := by omega
  have eK : Int.toNat x1 = K := by omega
  have ho : isl (50 + 13 * K) := by
    rcases hx with z | z
    · have : K = 0 := by omega
      subst this
      decide
    · have : K = 1 := by omega
      subst this
      decide
  obtain ⟨a1, a2⟩ := R.2.2.1 K hK
  rw [← ek] at a1 a2
  rw [eK]
  refine ⟨by omega, fun z => ⟨S.b5, fun h5 e5 => ?_⟩, fun z => ⟨hx, ?_⟩⟩
  · subst e5
    refine hQ _ _ (w_X8_back fun _ g1 w1 => ⟨fun _ => ⟨by omega, fun _ => ⟨by decide, ?_, fun h2 e2 => ?_⟩, fun w => by omega⟩, fun w => by omega⟩)
    · subst w1
      exact S.b7
    · subst e2 w1
      exact RQ.mk rfl (S.ref hn (by omega))
  · rcases a2 with a2 | ⟨a2, a3⟩
    · omega
    refine c_X0_copyFrom (by decide) ho (by omega) a3 (fun h2 B F => ⟨rfl, fun h3 e3 h4 e4 => ?_⟩)
    subst e4
    refine hQ _ _ (w_X8_back fun _ g1 w1 => ⟨fun _ => ⟨by omega, fun w => by omega, fun _ => ?_⟩, fun w => by omega⟩)
    have w := lp_backM (dd := dm) (b := 0) (Q := fun rm hM' => RQ n (some (vI 0)) rm (si h3 0 14 0) hM') (h := g1) (k := x1) (by omega) (by rw [w1]; exact S.b7) ?_ 5540 0 (by decide) (by decide)
    · rw [cpy_0] at w
      exact w
    have G : FrM eRM (si hM 0 0 0) (si (cpy g1 3 (5540 * x1) 2 0 5540) 0 8 0) := by
      rw [w1]
      exact (FrM.rfl'.wc (by unfold eRM; omega)).wi (by unfold eRM; omega)
    have T : RRs n h3 (si (cpy g1 3 (5540 * x1) 2 0 5540) 0 8 0) := by
      refine S.clear ?_ ?_ ?_ G ⟨by rw [e3, gi_eq], gi_eq⟩ ?_ ?_
      · rw [gi_o (by decide)]
        have B' : RA h3 1 (fun i => gi hM 3 (5540 * x1 + i)) := by
          rw [e3]
          exact B.to (fun c hc k => gi_ne (a := 41) (by omega)) (DynX.rfl'.si (by decide)) (fun _ => rfl)
        refine B'.same (fun k k0 k1 => ?_)
        rw [cpy_in (by omega), w1, gi_ne (by omega)]
        congr 1
        omega
      · rw [e3]
        exact (F.dyn (by decide)).si (by decide)
      · rw [e3]
        refine ⟨fun q k z => ?_, fun q k z => F.2.1 q k z⟩
        rw [gi_ne (by unfold eRX at z; omega)]
        exact F.1 q k (by unfold eRX at z; omega)
      · have t := S.2.2.2.2.1.1
        rw [e3, gi_ne (by omega), F.1 29 1 (by omega), gi_ne (by omega), cpy_out (by omega), w1]
        exact ⟨t.1, t.2.1, t.2.2.1⟩
      · have t := S.2.2.2.2.1.2.2.1
        rw [e3, gi_ne (by omega), F.1 0 10 (by omega), gi_ne (by omega), cpy_out (by omega), w1]
        exact t
    exact RQ.mk rfl (T.ok hn (by decide))
