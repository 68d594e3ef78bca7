/-! orders: how both sides end -/
def eOe (q : Nat) (k : Int) : Prop := EI 1 q k ∨ (q = 41 ∧ k = 1) ∨ q = 42 ∨ (q = 0 ∧ (k = 11 ∨ k = 12 ∨ k = 13))
theorem RRs.ord {n : Nat} {hX hX' hM hM' : AH} (S : RRs n hX hM) (ra : RA hX' 1 (gi hM' 2)) (U : RU hX' hM') (F : FrX eOe hX hX') (hs : gi hX' 0 11 = gi hM' 0 52) (G : (∀ q k, ¬ (eRn q k ∨ (q = 0 ∧ k = 52)) → gi hM' q k = gi hM q k) ∧ ∀ q k, q ≠ 18 → q ≠ 19 → q ≠ 20 → (q ≠ 0 ∨ k = 54) → gl hM' q k = gl hM q k) : RRs n hX' hM' := by
  obtain ⟨h1, h2, h3, h4, ⟨b1, b2, b3, b4, b6, b7, b8⟩, h6, h7⟩ := S
  have x : ∀ q k, ¬ (1 ≤ q ∧ q ≤ 13) → q ≠ 39 → q ≠ 40 → q ≠ 41 → q ≠ 42 → (q ≠ 0 ∨ (k ≠ 11 ∧ k ≠ 12 ∧ k ≠ 13)) → gi hX' q k = gi hX q k := fun q k a1 a2 a3 a4 a5 a6 => F.1 q k (by unfold eOe EI; omega)
  have m : ∀ q k, q ≠ 0 → q ≠ 2 → q ≠ 5 → q ≠ 6 → gi hM' q k = gi hM q k := fun q k a0 a1 a2 a3 => G.1 q k (by unfold eRn; omega)
  have m0 : ∀ k, (k = 11 ∨ k = 13 ∨ k = 18 ∨ k = 20 ∨ k = 57) → gi hM' 0 k = gi hM 0 k := fun k a1 => G.1 0 k (by unfold eRn; omega)
  have dy : DynX hX hX' := F.dyn (fun q k z => by unfold eOe EI at z; omega)
  refine ⟨ra, U,
    h3.to (fun k => x _ _ (by omega) (by omega) (by omega) (by omega) (by omega) (by omega)) (fun q a b k => x _ _ (by omega) (by omega) (by omega) (by omega) (by omega) (by omega)) dy (fun q a b k => by rw [F.2.1]) (fun k => m _ _ (by omega) (by omega) (by omega) (by omega)) (fun k => m _ _ (by omega) (by omega) (by omega) (by omega)),
    h4.to (x _ _ (by omega) (by omega) (by omega) (by omega) (by omega) (by omega)) (fun q a b k => x _ _ (by omega) (by omega) (by omega) (by omega) (by omega) (by omega)) (fun k => x _ _ (by omega) (by omega) (by omega) (by omega) (by omega) (by omega)) (m0 _ (by omega)) (fun k => m _ _ (by omega) (by omega) (by omega) (by omega)) (fun k => m _ _ (by omega) (by omega) (by omega) (by omega)),
    ⟨⟨?_, ?_, ?_, fun i i0 i1 => ?_⟩, ?_, ?_, hs, ?_, fun k k0 k1 => ?_, b8⟩, h6.to (m0 _ (by omega)) (fun q z k => G.2 q k (by omega) (by omega) (by omega) (by omega)), Nat.le_trans h7 dy.1⟩
  · rw [x 29 _ (by omega) (by omega) (by omega) (by omega) (by omega) (by omega), m0 13 (by omega)]
    exact b1.1
  · rw [m0 13 (by omega)]
    exact b1.2.1
  · rw [m0 13 (by omega)]
    exact b1.2.2.1
  · rw [x 30 _ (by omega) (by omega) (by omega) (by omega) (by omega) (by omega), m 9 _ (by omega) (by omega) (by omega) (by omega)]
    exact b1.2.2.2 i i0 i1
  · rw [x 31 _ (by omega) (by omega) (by omega) (by omega) (by omega) (by omega), m0 18 (by omega)]
    exact b2
  · rw [x 0 10 (by omega) (by omega) (by omega) (by omega) (by omega) (by omega), m0 11 (by omega)]
    exact b3
  · have y : ∀ k, gi hX' 14 k = gi hX 14 k := fun k => x _ _ (by omega) (by omega) (by omega) (by omega) (by omega) (by omega)
    have y' : ∀ k, gi hM' 1 k = gi hM 1 k := fun k => m _ _ (by omega) (by omega) (by omega) (by omega)
    simp only [y, y']
    exact b6
  · rw [m 1 _ (by omega) (by omega) (by omega) (by omega)]
    exact b7 k k0 k1
/-- the reference's heap ahead of the loops, as the class's stands there -/
def OrB (n : Nat) (hX0 : AH) (R : List Rec) (r0 : Int → Int) (y1 : Int) (hM0 : AH) : Prop := SaM hM0 R ∧ gi hM0 2 = r0 ∧ RRs n hX0 hM0 ∧ gi hM0 0 8 = y1 ∧ (∀ i, 0 ≤ i → i < 59 → gi hM0 5 (1003 + i) = gi hM0 2 (5 + i)) ∧ (∀ k, 0 ≤ k → k < 944 → gi hM0 7 k = gi hM0 5 k) ∧ ∀ k, 0 ≤ k → k < 16 → gi hM0 8 k = gi hM0 6 k
theorem ord_fin {n d : Nat} {Q : Option AV → AH → Prop} {hX0 hX : AH} {R : List Rec} {ah dn lt y1 : Int} {r r0 : Int → Int} (hq : n < 512) (ha : 0 ≤ ah ∧ ah ≤ 16) (I : OrX hX0 r0 ah dn lt r hX) (hd : 0 ≤ dn ∧ dn ≤ 240) (K : ∀ rx hX', (∀ hM0 hM, OrB n hX0 R r0 y1 hM0 → OrI hX0 hM0 ah dn lt hX hM → gi hM 2 = r → EndR (fun rm hM' => RQ n rx rm hX' hM') hM) → Q rx hX') : EndX d Q hX := by
  refine c_X6_trim I.2.1 (by omega) (fun h3 F3 n3 e3 => ⟨rfl, fun h4 z4 => K _ _ (fun hM0 hM OB IM er => ?_)⟩)
  have S := OB.2.2.1
  obtain ⟨i1, ⟨off, i2⟩, i3, ⟨a1, a2, a3, a4⟩, i5, i6, i7, i8, i9, i10⟩ := IM
  have FX : FrX eOe hX0 h3 := (i6.mono (fun q k w => by unfold eOr EI at w; unfold eOe EI; omega)).trans (F3.mono (fun q k w => by unfold eOe EI; omega))
  have ra : RA h3 1 (gi hM 2) := i1.to (fun c hc k => F3.1 _ _ (by omega)) (F3.dyn (fun q k w => by omega)) (fun i => by rw [F3.2.1])
  have es : gi h3 0 11 = gi hM 0 52 := (F3.1 _ _ (by omega)).trans ((i6.1 _ _ (by unfold eOr EI; omega)).trans (S.2.2.2.2.1.2.2.2.1.trans (i7.1 _ _ (by unfold eRn; omega)).symm))
  have T : RRs n h3 hM := S.ord ra (i2.trim i3 n3 e3) FX es ⟨fun q k w => i7.1 q k (fun z => w (Or.inl z)), i7.2⟩
  have e12 : gi h3 0 12 = dn := (F3.1 _ _ (by omega)).trans a1
  refine ⟨by omega, T.b7, fun h5 z5 => ?_⟩
  rw [z5, z4, e12, a3]
  exact RQ.mk rfl (T.ok hq hd.1)
/-! orders that can't be: all goes back -/
theorem RU.to3 {hX hX' hM hM' : AH} (H : RU hX hM) (x1 : gi hX' 41 1 = gi hX 41 1) (x2 : ∀ k, k < 51 * gi hX 41 1 → gi hX' 42 k = gi hX 42 k) (m1 : gi hM' 0 8 = gi hM 0 8) (m5 : ∀ k, 0 ≤ k → k < 944 → gi hM' 5 k = gi hM 5 k) (m6 : ∀ k, 0 ≤ k → k < 16 → gi hM' 6 k = gi hM 6 k) (r : gi hM' 2 = gi hM 2) : RU hX' hM' := by
  obtain ⟨h1, h2, h3, h4⟩ := H
  refine ⟨by rw [x1, m1, h1], by rw [m1]; exact h2, by rw [m1]; exact h3, fun j j0 j1 => ?_⟩
  rw [m1] at j1
  obtain ⟨q1, q2, q3, q4, q5, q6⟩ := h4 j j0 j1
  rw [x2 _ (by omega), x2 _ (by omega), m6 _ (by omega) (by omega), m5 _ (by omega) (by omega), m5 _ (by omega) (by omega), r]
  refine ⟨q1, q2, q3, fun i i0 i1 => ?_, fun i i0 i1 => ?_, ?_⟩
  · rw [x2 _ (by omega), m5 _ (by omega) (by omega)]
    exact q4 i i0 i1
  · rw [x2 _ (by omega), m5 _ (by omega) (by omega)]
    exact q5 i i0 i1
  · rw [backR_congr (v := fun i => gi hM 5 (59 * j + i)) (fun i i0 i1 => m5 _ (by omega) (by omega))]
    exact q6
section GIVE
variable {d b : Nat} {Q : Option AV → AH → Prop} {h : AH} {y : Int}
theorem lp_gb2 (hQ : Q none (si (cpy h 8 0 6 0 16) 0 8 y)) : ∀ (n : Nat) (i : Int), 0 ≤ i → i + n = 16 → Lp_X8_giveBack_35 d b Q y i (cpy h 8 0 6 0 i)
  | 0, i, i0, e => by
    have : i = 16 := by omega
    subst this
    exact l_X8_giveBack_35 ⟨fun _ h1 e1 => by subst e1; exact hQ, fun z => by omega⟩
  | n + 1, i, i0, e => by
    refine l_X8_giveBack_35 ⟨fun z => by omega, fun _ => ⟨by omega, by omega, fun h1 e1 => ⟨by omega, ?_⟩⟩⟩
    have w := cpy_s (h := h) (a := 8) (b := 6) (s := 0) (dp := 0) i0
    rw [Int.zero_add] at w
    rw [cpy_out (by omega), w] at e1
    subst e1
    exact lp_gb2 hQ n (i + 1) (by omega) (by omega)
theorem lp_gb1 (hQ : Q none (si (cpy (cpy h 7 0 5 0 944) 8 0 6 0 16) 0 8 y)) : ∀ (n : Nat) (i : Int), 0 ≤ i → i + n = 944 → Lp_X8_giveBack_8 d b Q y i (cpy h 7 0 5 0 i)
  | 0, i, i0, e => by
    have : i = 944 := by omega
    subst this
    refine l_X8_giveBack_8 ⟨fun _ => ?_, fun z => by omega⟩
    have := lp_gb2 (d := d) (b := b) hQ 16 0 (by decide) (by decide)
    rw [cpy_0] at this
    exact this
  | n + 1, i, i0, e => by
    refine l_X8_giveBack_8 ⟨fun z => by omega, fun _ => ⟨by omega, by omega, fun h1 e1 => ⟨by omega, ?_⟩⟩⟩
    have w := cpy_s (h := h) (a := 7) (b := 5) (s := 0) (dp := 0) i0
    rw [Int.zero_add] at w
    rw [cpy_out (by omega), w] at e1
    subst e1
    exact lp_gb1 hQ n (i + 1) (by omega) (by omega)
theorem c_giveBack (hQ : Q none (si (cpy (cpy (cpy h 5 1003 2 5 59) 7 0 5 0 944) 8 0 6 0 16) 0 8 y)) : WM GM (d + 1) b mX8_giveBack [vR (some 0), vI y] h Q := by
  refine w_X8_giveBack (c_X8_putBack (by decide) ⟨rfl, ?_⟩)
  have := lp_gb1 (d := d) (b := b) hQ 944 0 (by decide) (by decide)
  rw [cpy_0] at this
  exact this
end GIVE
