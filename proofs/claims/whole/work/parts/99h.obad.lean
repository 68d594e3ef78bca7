/-! orders that can't be: both sides' end -/
theorem backR_r0 {r r0 : Int → Int} (O : Out r0 r) : backR r (fun i => r0 (5 + i)) = r0 := by
  rw [backR_out O, backR_self]
theorem ord_bad {n d dm : Nat} {Q : Option AV → AH → Prop} {hX0 hX : AH} {R : List Rec} {ah dn lt c : Int} {r r0 : Int → Int} (V0 : InvR r0) (b5 : ∀ j : Int, 0 ≤ j → j < 5 → 0 ≤ gi hX0 14 j ∧ gi hX0 14 j ≤ 1000000) (hq : n < 512) (ha : 0 ≤ ah ∧ ah ≤ 16) (e41 : gi hX0 41 1 = ah) (I : OrX hX0 r0 ah dn lt r hX) (hd : 0 ≤ dn ∧ dn < 240) (K : ∀ rx hX', (∀ hM0 hM, OrB n hX0 R r0 ah hM0 → OrI hX0 hM0 ah dn lt hX hM → gi hM 2 = r → BadM dm (fun rm hM' => RQ n rx rm hX' hM') ah c hM) → Q rx hX') : BadX d Q ah c hX := by
  obtain ⟨i1, i3, ⟨a1, a2⟩, i5, i6, i8, i9⟩ := I
  have fin : ∀ h2, RA h2 1 r0 → FrX eOe hX0 h2 → gi h2 41 1 = ah → (∀ k, k < 51 * ah → gi h2 42 k = gi hX0 42 k) → ∀ h3, h3 = si h2 0 11 c → (∀ i : Int, 0 ≤ i → i < 5 → 0 ≤ gi h3 14 i ∧ gi h3 14 i ≤ 1000000) ∧ ∀ h4, h4 = xRef h3 (-3) → Q (some (vI (-3))) h4 := fun h2 A2 F2 n2 x2 h3 z3 => by
    have F3 : FrX eOe hX0 h3 := by
      rw [z3]
      exact F2.wi (by unfold eOe; omega)
    refine ⟨fun j j0 j1 => by rw [F3.1 _ _ (by unfold eOe EI; omega)]; exact b5 j j0 j1, fun h4 z4 => K _ _ (fun hM0 hM OB IM er => ?_)⟩
    obtain ⟨-, er0, S, -, k5, k7, k8⟩ := OB
    obtain ⟨j1, -, -, -, -, -, i7, j8, -, i10⟩ := IM
    refine c_giveBack ⟨rfl, fun g1 w1 => ?_⟩
    have o : ∀ q k, ¬ (eRn q k ∨ (q = 0 ∧ k = 52)) → gi g1 q k = gi hM0 q k := fun q k z => by
      unfold eRn at z
      rw [w1, gi_ne (by omega), gi_ne (by omega), cpy_out (by omega), cpy_out (by omega), cpy_out (by omega)]
      exact i7.1 q k (by unfold eRn; omega)
    have y8 : ah = gi hM0 0 8 := e41.symm.trans S.2.1.1
    have r2 : gi g1 2 = gi hM0 2 := by
      have : gi g1 2 = gi (cpy hM 5 1003 2 5 59) 2 := funext fun k => by rw [w1, gi_ne (by omega), gi_ne (by omega), cpy_out (by omega), cpy_out (by omega)]
      rw [this, backR_cpy, backR_congr (v := fun i => gi hM0 2 (5 + i)) (fun i i0 i1 => (i10 _ (by omega)).trans (k5 i i0 i1))]
      exact backR_r0 j8
    have ra : RA h3 1 (gi g1 2) := by
      rw [r2, er0, z3]
      exact A2.to (fun c hc k => gi_no (by omega)) (DynX.rfl'.si (by decide)) (fun i => rfl)
    have ru : RU h3 g1 := S.2.1.to3 (by rw [z3, gi_no (by decide), n2, e41]) (fun k hk => by rw [z3, gi_no (by decide)]; exact x2 k (by rw [e41] at hk; exact hk)) (by rw [w1, gi_nk (by decide), gi_eq, y8]) (fun k k0 k1 => by
      rw [w1, gi_no (by decide), gi_no (by decide), cpy_out (by omega), cpy_in (by omega), cpy_out (by omega), i7.1 _ _ (by unfold eRn; omega), ← k7 k k0 k1]
      congr 1
      omega) (fun k k0 k1 => by
      rw [w1, gi_no (by decide), gi_no (by decide), cpy_in (by omega), cpy_out (by omega), cpy_out (by omega), i7.1 _ _ (by unfold eRn; omega), ← k8 k k0 k1]
      congr 1
      omega) r2
    have T : RRs n h3 g1 := S.ord ra ru F3 (by rw [z3, w1, gi_eq, gi_eq]) ⟨o, fun q k y1 y2 y3 y4 => by
      rw [w1]
      exact i7.2 q k y1 y2 y3 y4⟩
    refine ⟨by decide, T.b7, fun g2 w2 => ?_⟩
    rw [z4, w2]
    exact RQ.mk rfl (T.ref hq (by omega))
  have FX : FrX eOe hX0 hX := i6.mono (fun q k w => by unfold eOr EI at w; unfold eOe EI; omega)
  have x42 : ∀ k, k < 51 * ah → gi hX 42 k = gi hX0 42 k := fun k hk => i6.1 _ _ (by unfold eOr EI; omega)
  rcases i9 with ⟨d0, e0⟩ | ⟨d1, kd, Kk⟩
  · refine w_X6_backTo ⟨fun z => by omega, fun _ => ⟨fun z => by omega, fun _ => ⟨_, rfl, ?_⟩⟩⟩
    exact fin hX (by rw [← e0]; exact i1) FX (by omega) x42
  · have eb := backR_r0 i8
    refine c_X6_backTo (u := fun i => r0 (5 + i)) i1 ⟨ha.1, by omega⟩ (by omega) (by rw [eb]; exact V0) (by show _ = r0 (5 + 0); rw [Int.add_zero]; exact Kk.2.1) (by show r0 (5 + 1) = _; rw [show (5 : Int) + 1 = 6 by decide]; exact (i8 6 (by omega)).symm) (fun i i0 i1 => ?_) (fun i i0 i1 => ?_) (fun h2 A2 F2 n2 => ⟨_, rfl, fin h2 (by rw [eb] at A2; exact A2) (FX.trans (F2.mono (fun q k w => by have := eBk_D q k w; unfold eDX EI at this; unfold eOe EI; omega))) n2 (fun k hk => (F2.1 _ _ (by unfold eBk; omega)).trans (x42 k hk))⟩)
    · show _ = r0 (5 + (2 + i))
      rw [Kk.2.2.1 i i0 i1]
      congr 1
      omega
    · show _ = r0 (5 + (34 + i))
      rw [Kk.2.2.2 i i0 i1]
      congr 1
      omega
