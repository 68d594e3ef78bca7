/-! row: cells from the tape -/
abbrev rwT (t : Int → Int) (L k : Int) : Prop := k + 1 < L ∧ k / 2 < 25 ∧ t k ≤ 99 ∧ t (k + 1) ≤ 4
def rwR (t : Int → Int) (L : Int) : Nat → Int → (Int → Int) → (Int → Int)
  | 0, _, r => r
  | n + 1, k, r => if rwT t L k then rwR t L n (k + 2) (up1 (up1 r (39 + k / 2) (t k)) (104 + k / 2) (t (k + 1))) else rwR t L n (k + 2) r
def rwN (t : Int → Int) (L : Int) : Nat → Int → Int
  | 0, _ => 0
  | n + 1, k => if rwT t L k then 1 + rwN t L n (k + 2) else rwN t L n (k + 2)
theorem rwN_R (t : Int → Int) (L : Int) : ∀ (n : Nat) (k : Int), 0 ≤ rwN t L n k ∧ rwN t L n k ≤ n
  | 0, _ => ⟨by unfold rwN; decide, by unfold rwN; decide⟩
  | n + 1, k => by
    have := rwN_R t L n (k + 2)
    unfold rwN
    split <;> omega
theorem rw_end {t : Int → Int} {L : Int} {n : Nat} {k : Int} {r : Int → Int} (h : L ≤ k + 1) (hn : k + 2 * n ≤ L + 1) : rwR t L n k r = r ∧ rwN t L n k = 0 := by
  match n, hn with
  | 0, _ => exact ⟨rfl, rfl⟩
  | 1, _ =>
    unfold rwR rwN
    rw [if_neg (fun z => by have := z.1; omega), if_neg (fun z => by have := z.1; omega)]
    exact ⟨rfl, rfl⟩
  | n + 2, hn => omega
def eW (q : Nat) (_ : Int) : Prop := q = 10 ∨ q = 11
theorem la_104' {c : Int} (h : 0 ≤ c ∧ c < 25) : la (104 + c) = 10 ∧ lb (104 + c) = c := la_104 h
theorem lp_rowX {dd b : Nat} {Q : Option AV → AH → Prop} {t : Int → Int} {L : Int} (hL : 0 < L ∧ L ≤ 400) (ht : ∀ i, 0 ≤ i → i < 400 → 0 ≤ t i ∧ t i ≤ 255) : ∀ (n : Nat) (k s : Int) (r : Int → Int) (h : AH), RA h 1 r → (∀ i, gi h 30 i = t i) → L ≤ k + 2 * n → k + 2 * n ≤ L + 1 → 0 ≤ k → k % 2 = 0 → k ≤ L + 1 → 0 ≤ s → s ≤ k → (∀ h', RA h' 1 (rwR t L n k r) → FrX eW h h' → Q (some (vI (s + rwN t L n k))) (si (si (si h' 0 10 ((L + 1) / 2 - (s + rwN t L n k))) 41 1 0) 0 14 0)) → Lp_X7_row_31 dd b Q L s k h
  | n, k, s, r, h, A, et, g1, g2, k0, k2, kL, s0, s1, kk => by
    have d2 : Int.tdiv k 2 = k / 2 := Int.tdiv_eq_ediv_of_nonneg k0
    refine l_X7_row_31 ?_
    rw [d2, et, et]
    refine ⟨by omega, fun c => ?_, fun c => ?_⟩
    · have dL : Int.tdiv (L + 1) 2 = (L + 1) / 2 := Int.tdiv_eq_ediv_of_nonneg (by omega)
      obtain ⟨z1, z2⟩ := rw_end (t := t) (r := r) c g2
      rw [z1, z2, Int.add_zero] at kk
      rw [dL]
      refine ⟨by omega, by omega, by omega, fun h1 e1 h2 e2 h3 e3 => ?_⟩
      subst e3 e2 e1
      exact kk h A FrX.rfl'
    · match n, g1, g2, kk with
      | 0, g1, g2, kk => exact absurd c (by omega)
      | n + 1, g1, g2, kk =>
        have t0 := ht k (by omega) (by omega)
        have t1 := ht (k + 1) (by omega) (by omega)
        unfold rwR rwN at kk
        have no : ¬ rwT t L k → Lp_X7_row_31 dd b Q L s (k + 2) h := fun w => by
          rw [if_neg w, if_neg w] at kk
          exact lp_rowX hL ht n (k + 2) s r h A et (by omega) (by omega) (by omega) (by omega) (by omega) s0 (by omega) kk
        refine ⟨by omega, by omega, by omega, by omega, fun c2 => ⟨by omega, no (fun z => by have := z.2.1; omega)⟩, fun c2 => ⟨fun c3 => ⟨by omega, no (fun z => by have := z.2.2.1; omega)⟩, fun c3 => ⟨fun c4 => ⟨by omega, no (fun z => by have := z.2.2.2; omega)⟩, fun c4 => ⟨by omega, fun h1 e1 => ⟨by omega, fun h2 e2 => ⟨by omega, by omega, ?_⟩⟩⟩⟩⟩⟩
        have w : rwT t L k := ⟨by omega, by omega, by omega, by omega⟩
        rw [if_pos w, if_pos w] at kk
        have cb : 0 ≤ k / 2 ∧ k / 2 < 25 := by omega
        have l1 := la_39 cb
        have l2 := la_104 cb
        have F : FrX eW h h2 := by
          subst e2 e1
          exact (FrX.rfl'.wi (Or.inl rfl)).wi (Or.inr rfl)
        have B : RA h2 1 (up1 (up1 r (39 + k / 2) (t k)) (104 + k / 2) (t (k + 1))) := by
          refine ⟨?_, ?_, (A.2.2.fish cb (by omega)).drift cb (by omega)⟩
          · subst e2 e1
            exact (A.1.set (by unfold okP; omega) (by rw [l1.1]) l1.2.symm).set (by unfold okP; omega) (by rw [l2.1]) l2.2.symm
          · exact A.2.1.to (F.dyn (fun q k z => by unfold eW at z; omega)) (fun i _ _ => by rw [F.2.1]) (by rw [up1_ne (by omega), up1_ne (by omega)]) (fun j hj => by rw [up1_ne (by omega), up1_ne (by omega)])
        refine lp_rowX hL ht n (k + 2) (s + 1) _ h2 B (fun i => by rw [F.1 _ _ (by unfold eW; omega)]; exact et i) (by omega) (by omega) (by omega) (by omega) (by omega) (by omega) (by omega) (fun h' A' F' => ?_)
        have := kk h' A' (F.trans F')
        rw [← Int.add_assoc] at this
        exact this
def eWM (q : Nat) (k : Int) : Prop := q = 2 ∨ (q = 0 ∧ k = 11)
theorem lp_rowM {dd b : Nat} {Q : Option AV → AH → Prop} {t : Int → Int} {L : Int} (hL : 0 < L ∧ L ≤ 400) (ht : ∀ i, 0 ≤ i → i < 400 → 0 ≤ t i ∧ t i ≤ 255) : ∀ (n : Nat) (k s f : Int) (h : AH), (∀ i, 0 ≤ i → i < 400 → gi h 9 i = t i) → (∀ i : Int, 0 ≤ i → i < 7 → 0 ≤ gi h 1 i ∧ gi h 1 i ≤ 1000000) → gi h 0 11 = f → L ≤ k + 2 * n → k + 2 * n ≤ L + 1 → 0 ≤ k → k % 2 = 0 → k ≤ L + 1 → 0 ≤ s → s ≤ k → 0 ≤ f → f ≤ k → (∀ h', gi h' 2 = rwR t L n k (gi h 2) → gi h' 0 11 = f + n - rwN t L n k → FrM eWM h h' → Q (some (vI (s + rwN t L n k))) (mTell (si h' 0 8 0) (s + rwN t L n k))) → Lp_X8_row_35 dd b Q L s k h
  | 0, k, s, f, h, et, b7, ef, g1, g2, k0, k2, kL, s0, s1, f0, f1, kk => by
    have := kk h rfl (by unfold rwN; omega) FrM.rfl'
    unfold rwN at this
    rw [Int.add_zero] at this
    refine l_X8_row_35 ⟨fun _ => ⟨by omega, b7, fun h1 e1 => ?_⟩, fun z => absurd z (by omega)⟩
    subst e1
    rw [if_neg (by omega)]
    exact this
  | n + 1, k, s, f, h, et, b7, ef, g1, g2, k0, k2, kL, s0, s1, f0, f1, kk => by
    have d2 : Int.tdiv k 2 = k / 2 := Int.tdiv_eq_ediv_of_nonneg k0
    unfold rwR rwN at kk
    have no : ¬ rwT t L k → R32 (gi h 0 11 + 1) ∧ ∀ h1, h1 = si h 0 11 (gi h 0 11 + 1) → R32 (k + 2) ∧ Lp_X8_row_35 dd b Q L s (k + 2) h1 := fun w => by
      rw [if_neg w, if_neg w] at kk
      refine ⟨by omega, fun h1 e1 => ⟨by omega, ?_⟩⟩
      have F : FrM eWM h h1 := by
        subst e1
        exact FrM.rfl'.wi (Or.inr ⟨rfl, rfl⟩)
      have er : gi h1 2 = gi h 2 := by rw [e1, gi_o (by decide)]
      refine lp_rowM hL ht n (k + 2) s (f + 1) h1 (fun i i0 i1 => by rw [F.1 _ _ (by unfold eWM; omega)]; exact et i i0 i1) (fun i i0 i1 => by rw [F.1 _ _ (by unfold eWM; omega)]; exact b7 i i0 i1) (by rw [e1, gi_eq, ef]) (by omega) (by omega) (by omega) (by omega) (by omega) s0 (by omega) (by omega) (by omega) (fun h' e2 e3 F' => kk h' (by rw [e2, er]) (by omega) (F.trans F'))
    by_cases c0 : k + 1 < L
    · have t0 := ht k (by omega) (by omega)
      have t1 := ht (k + 1) (by omega) (by omega)
      refine l_X8_row_35 ?_
      rw [d2, et _ (by omega) (by omega), et (k + 1) (by omega) (by omega)]
      refine ⟨fun z => absurd z (by omega), fun _ => ⟨by omega, fun z => absurd z (by omega), fun _ => ⟨by omega, fun c1 => ⟨by omega, fun c2 => ⟨by omega, by omega, fun c3 => ⟨by omega, by omega, by omega, by omega, fun h6 e6 => ⟨by omega, by omega, by omega, by omega, by omega, fun h7 e7 => ⟨by omega, by omega, ?_⟩⟩⟩, fun c3 => no (fun z => by have := z.2.2.2; omega)⟩, fun c2 => no (fun z => by have := z.2.2.1; omega)⟩, fun c1 => no (fun z => by have := z.2.1; omega)⟩⟩⟩
      have w : rwT t L k := ⟨by omega, by omega, by omega, by omega⟩
      rw [if_pos w, if_pos w] at kk
      have F : FrM eWM h h7 := by
        subst e7 e6
        exact (FrM.rfl'.wi (Or.inl rfl)).wi (Or.inl rfl)
      have er : gi h7 2 = up1 (up1 (gi h 2) (39 + k / 2) (t k)) (104 + k / 2) (t (k + 1)) := by rw [e7, e6, gi_self, gi_self]
      refine lp_rowM hL ht n (k + 2) (s + 1) f h7 (fun i i0 i1 => by rw [F.1 _ _ (by unfold eWM; omega)]; exact et i i0 i1) (fun i i0 i1 => by rw [F.1 _ _ (by unfold eWM; omega)]; exact b7 i i0 i1) (by rw [e7, e6, gi_ne (by omega), gi_ne (by omega), ef]) (by omega) (by omega) (by omega) (by omega) (by omega) (by omega) (by omega) (by omega) (by omega) (fun h' e2 e3 F' => ?_)
      have := kk h' (by rw [e2, er]) (by omega) (F.trans F')
      rw [← Int.add_assoc] at this
      exact this
    · exact l_X8_row_35 ⟨fun z => absurd z (by omega), fun _ => ⟨by omega, fun _ => no (fun z => by have := z.1; omega), fun z => absurd z (by omega)⟩⟩
def eRX (q : Nat) (k : Int) : Prop := (1 ≤ q ∧ q ≤ 13) ∨ (q = 41 ∧ k = 1) ∨ (q = 29 ∧ k = 1) ∨ (q = 0 ∧ (k = 10 ∨ k = 14)) ∨ q = 39 ∨ q = 40
def eRM (q : Nat) (k : Int) : Prop := q = 2 ∨ (q = 0 ∧ (k = 0 ∨ k = 1 ∨ k = 8 ∨ k = 11 ∨ k = 13))
/-- the relation where the isle, the tape's length, foam changed and nothing can be undone -/
theorem RRs.row {n : Nat} {hX hX' hM hM' : AH} (S : RRs n hX hM) (ra : RA hX' 1 (gi hM' 2)) (F : FrX eRX hX hX') (G : FrM eRM hM hM') (hu : gi hX' 41 1 = 0 ∧ gi hM' 0 8 = 0) (ht : gi hX' 29 1 = gi hM' 0 13 ∧ 0 ≤ gi hM' 0 13 ∧ gi hM' 0 13 ≤ 400) (hf : gi hX' 0 10 = gi hM' 0 11) : RRs n hX' hM' := by
  obtain ⟨h1, h2, h3, h4, ⟨b1, b2, b3, b4, b6, b7, b8⟩, h6, h7⟩ := S
  have x : ∀ q k, 14 ≤ q → q ≠ 29 → q ≠ 39 → q ≠ 40 → q ≠ 41 → gi hX' q k = gi hX q k := fun q k a1 a2 a3 a4 a5 => F.1 q k (by unfold eRX; omega)
  have x0 : ∀ k, k ≠ 10 → k ≠ 14 → gi hX' 0 k = gi hX 0 k := fun k a1 a2 => F.1 0 k (by unfold eRX; omega)
  have m : ∀ q k, q ≠ 0 → q ≠ 2 → gi hM' q k = gi hM q k := fun q k a0 a1 => G.1 q k (by unfold eRM; omega)
  have m0 : ∀ k, k ≠ 0 → k ≠ 1 → k ≠ 8 → k ≠ 11 → k ≠ 13 → gi hM' 0 k = gi hM 0 k := fun k a0 a1 a2 a3 a4 => G.1 0 k (by unfold eRM; omega)
  have dy : DynX hX hX' := F.dyn (fun q k z => by unfold eRX at z; omega)
  refine ⟨ra, RU.none hu.1 hu.2,
    h3.to (fun k => x _ _ (by omega) (by omega) (by omega) (by omega) (by omega)) (fun q a b k => x _ _ (by omega) (by omega) (by omega) (by omega) (by omega)) dy (fun q a b k => by rw [F.2.1]) (fun k => m _ _ (by omega) (by omega)) (fun k => m _ _ (by omega) (by omega)),
    h4.to (x0 _ (by omega) (by omega)) (fun q a b k => x _ _ (by omega) (by omega) (by omega) (by omega) (by omega)) (fun k => x _ _ (by omega) (by omega) (by omega) (by omega) (by omega)) (m0 _ (by omega) (by omega) (by omega) (by omega) (by omega)) (fun k => m _ _ (by omega) (by omega)) (fun k => m _ _ (by omega) (by omega)),
    ⟨⟨ht.1, ht.2.1, ht.2.2, fun i i0 i1 => ?_⟩, ?_, hf, ?_, ?_, fun k k0 k1 => ?_, b8⟩,
    h6.to (m0 _ (by omega) (by omega) (by omega) (by omega) (by omega)) (fun q z k => G.2 q k (by omega) (by omega) (by omega)), Nat.le_trans h7 dy.1⟩
  · rw [x 30 _ (by omega) (by omega) (by omega) (by omega) (by omega), m 9 _ (by omega) (by omega)]
    exact b1.2.2.2 i i0 i1
  · rw [x 31 _ (by omega) (by omega) (by omega) (by omega) (by omega), m0 18 (by omega) (by omega) (by omega) (by omega) (by omega)]
    exact b2
  · rw [x0 11 (by omega) (by omega), m0 52 (by omega) (by omega) (by omega) (by omega) (by omega)]
    exact b4
  · simp only [x 14 _ (by omega) (by omega) (by omega) (by omega) (by omega), m 1 _ (show (1 : Nat) ≠ 0 by decide) (show (1 : Nat) ≠ 2 by decide)]
    exact b6
  · rw [m 1 _ (by omega) (by omega)]
    exact b7 k k0 k1
theorem q_row {n dx dm : Nat} {hX hM : AH} {Q : Option AV → AH → Prop} (R : RR n hX hM) (hn : n < 512) (hQ : ∀ rx hX', WM GM (dm + 2) 0 mX8_row [vR (some 0)] hM (fun rm hM' => RQ n rx rm hX' hM') → Q rx hX') : WM GX (dx + 1) 0 mX7_row [vR (some 0)] hX Q := by
  obtain ⟨l1, l2, l3, l4⟩ := R.2.2.2.2.1.1
  have b7' := R.s.b7
  refine w_X7_row fun h1 e1 => ⟨fun c => ?_, fun c => ?_⟩
  · have sx : SameX hX h1 := by
      subst e1
      refine ⟨DynX.rfl'.si (by decide), fun q k _ => ?_, fun _ _ _ => rfl⟩
      rw [gi_si]
      split
      next z => rw [z.1, z.2, c]
      · rfl
    have sm : SameM hM (si (si hM 0 0 0) 0 13 0) := by
      refine ⟨fun q k z => ?_, fun _ _ _ => rfl⟩
      rw [gi_si]
      split
      next z => rw [z.1, z.2]; omega
      · rw [gi_ne]
        unfold coreM at z
        omega
    have S := R.s.same sx sm
    refine ⟨S.b5, fun h2 e2 => ?_⟩
    subst e2
    refine hQ _ _ (w_X8_row fun g1 w1 g2 w2 => ⟨fun _ => ⟨by decide, ?_, fun g3 w3 => ?_⟩, fun z => by omega⟩)
    · subst w2 w1
      exact S.b7
    · subst w3 w2 w1
      exact RQ.mk rfl (S.ref hn (by omega))
  · have A : RA h1 1 (gi hM 2) := by
      rw [e1]
      exact R.1.to (fun c hc k => gi_ne (by omega)) (DynX.rfl'.si (by decide)) (fun _ => rfl)
    have tb : ∀ i, 0 ≤ i → i < 400 → 0 ≤ gi hX 30 i ∧ gi hX 30 i ≤ 255 := fun i i0 i1 => by
      have := l4 i i0 i1
      omega
    obtain ⟨N, hN⟩ : ∃ N : Nat, gi hX 29 1 ≤ 0 + 2 * (N : Int) ∧ 0 + 2 * (N : Int) ≤ gi hX 29 1 + 1 := ⟨((gi hX 29 1 + 1) / 2).toNat, by omega, by omega⟩
    refine lp_rowX (t := gi hX 30) (by omega) tb N 0 0 (gi hM 2) h1 A (fun i => by rw [e1, gi_ne (by omega)]) hN.1 hN.2 (by decide) (by decide) (by omega) (by decide) (by decide) (fun h2 B F => ?_)
    rw [Int.zero_add]
    have rn := rwN_R (gi hX 30) (gi hX 29 1) N 0
    refine hQ _ _ (w_X8_row fun g1 w1 g2 w2 => ⟨fun z => by omega, fun _ g3 w3 => ?_⟩)
    rw [← l1]
    have G0 : FrM eRM hM g3 := by
      subst w3 w2 w1
      exact ((FrM.rfl'.wi (by unfold eRM; omega)).wi (by unfold eRM; omega)).wi (by unfold eRM; omega)
    have e3 : gi g3 2 = gi hM 2 := by rw [w3, w2, w1, gi_o (by decide), gi_o (by decide), gi_o (by decide)]
    refine lp_rowM (t := gi hX 30) (by omega) tb N 0 0 0 g3 (fun i i0 i1 => by rw [G0.1 _ _ (by unfold eRM; omega)]; exact (l4 i i0 i1).1.symm) (fun i i0 i1 => by rw [G0.1 _ _ (by unfold eRM; omega)]; exact b7' i i0 i1) (by rw [w3, gi_eq]) hN.1 hN.2 (by decide) (by decide) (by omega) (by decide) (by decide) (by decide) (by decide) (fun g4 e4 f4 G => ?_)
    rw [Int.zero_add]
    rw [e3] at e4
    have G1 : FrM eRM hM (si g4 0 8 0) := (G0.trans (G.mono (fun q k z => by unfold eWM at z; unfold eRM; omega))).wi (by unfold eRM; omega)
    have F1 : FrX eRX hX (si (si h2 0 10 ((gi hX 29 1 + 1) / 2 - rwN (gi hX 30) (gi hX 29 1) N 0)) 41 1 0) := by
      have : FrX eRX hX h1 := by
        rw [e1]
        exact FrX.rfl'.wi (by unfold eRX; omega)
      exact ((this.trans (F.mono (fun q k z => by unfold eW at z; unfold eRX; omega))).wi (by unfold eRX; omega)).wi (by unfold eRX; omega)
    have S : RRs n (si (si h2 0 10 ((gi hX 29 1 + 1) / 2 - rwN (gi hX 30) (gi hX 29 1) N 0)) 41 1 0) (si g4 0 8 0) := by
      refine R.s.row ?_ F1 G1 ⟨gi_eq, gi_eq⟩ ?_ ?_
      · rw [gi_o (by decide), e4]
        exact B.to (fun c hc k => by rw [gi_ne (by omega), gi_ne (by omega)]) ((DynX.rfl'.si (by decide)).si (by decide)) (fun _ => rfl)
      · have a : gi g4 0 13 = 0 := by rw [G.1 0 13 (by unfold eWM; omega), w3, gi_ne (by omega), w2, gi_eq]
        have b : gi h2 29 1 = 0 := by rw [F.1 29 1 (by unfold eW; omega), e1, gi_eq]
        rw [gi_ne (by omega), gi_ne (by omega), gi_ne (by omega), a, b]
        decide
      · rw [gi_ne (by omega), gi_eq, gi_ne (by omega), f4]
        omega
    exact RQ.mk rfl (S.ok hn rn.1)
