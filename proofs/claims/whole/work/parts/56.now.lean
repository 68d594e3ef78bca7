/-! deeds: both sides -/
def eD (q : Nat) (k : Int) : Prop := q = 2 ∨ q = 5 ∨ q = 6 ∨ (q = 0 ∧ (k = 8 ∨ k = 34 ∨ k = 38))
def DdM (kd d to : Int) (h h' : AH) : Prop := gi h' 2 = actR (gi h 2) kd d to ∧ RemU kd h h' ∧ FrM eD h h'
/-- what the reference's deed asks of what comes behind it -/
def NowM (kd d to : Int) (h : AH) (P : Option AV → AH → Prop) : Prop :=
  (refR (gi h 2) kd d to ≠ 0 → ∀ h', TL h h' → P (some (vI (refR (gi h 2) kd d to))) h') ∧ (refR (gi h 2) kd d to = 0 → ∀ h', DdM kd d to h h' → P (some (vI (actN (gi h 2) kd d to))) h')
theorem NowM.bad {kd d to : Int} {h : AH} {P : Option AV → AH → Prop} (N : NowM kd d to h P) {v : Int} {h' : AH} (e : refR (gi h 2) kd d to = v) (n : v ≠ 0) (T : TL h h') : P (some (vI v)) h' := by
  have := N.1 (by rw [e]; exact n) h' T
  rwa [e] at this
theorem RemU.tl {kind : Int} {h h1 h' : AH} (R : RemU kind h1 h') (T : TL h h1) : RemU kind h h' := R.pre (T.1 _ _ (by omega)) (fun k => T.1 _ _ (by omega)) (fun k => T.1 _ _ (by omega)) (fun k => T.1 _ _ (by omega))
theorem RemU.w2 {kind : Int} {h h1 : AH} (R : RemU kind h h1) {i v : Int} : RemU kind h (si h1 2 i v) := R.post (gi_ne (by omega)) (fun k => gi_ne (by omega)) (fun k => gi_ne (by omega))
theorem RemU.ts {kind : Int} {h h1 h' : AH} (R : RemU kind h h1) (T : TS h1 h') : RemU kind h h' := R.post (T.1 _ _ (by omega)) (fun k => T.1 _ _ (by omega)) (fun k => T.1 _ _ (by omega))
theorem eU_D : ∀ q k, eU q k → eD q k := fun q k z => by
  unfold eU at z
  unfold eD
  omega
theorem FrM.r2 {a b : AH} (F : FrM eU a b) : gi b 2 = gi a 2 := funext fun k => F.1 _ _ (by unfold eU; omega)
theorem LawK.eu {a b : AH} (L : LawK a) (F : FrM eU a b) : LawK b := by
  unfold LawK
  rw [F.r2, F.1 0 20 (by unfold eU; omega)]
  exact L
theorem c_X8_launchNow {dd b : Nat} {P : Option AV → AH → Prop} {h : AH} {d to : Int} (L : LawK h) (hu : 0 ≤ gi h 0 8 ∧ gi h 0 8 ≤ 16) (N : NowM 0 d to h P) : WM GM (dd + 6) b mX8_launchNow [vR (some 0), vI d] h P := by
  have I1 := L.2.1.1
  refine w_X8_launchNow ⟨by omega, fun c => ⟨by omega, by omega, fun z => ?_, fun z => ?_⟩, fun c => N.bad (refR_d (by decide) (by omega) c) (by decide) TL.rfl'⟩
  · refine N.bad (v := -3) ?_ (by decide) TL.rfl'
    rw [refR_c (by decide) (by omega) c (by omega), if_neg]
    unfold canR
    omega
  · refine c_X8_isBarred L c (fun h1 T => ⟨_, rfl, fun w => ?_, fun w => ?_⟩)
    · have w' := b2i_0.mp w
      have hz : refR (gi h 2) 0 d to = 0 := by
        rw [refR_c (by decide) (by omega) c (by omega), if_pos]
        unfold canR
        exact Or.inl ⟨rfl, z, w'⟩
      refine c_X8_remember (by rw [T.1 0 8 (by omega)]; exact hu) (fun h2 R F => ⟨rfl, by omega, by omega, fun h3 e3 => ⟨by omega, by omega, fun h4 e4 => ?_⟩⟩)
      subst e4 e3
      refine N.2 hz _ ⟨?_, (R.tl T).w2.w2, (((T.fr.mono (fun q k z => by unfold eD; omega)).trans (F.mono eU_D)).wi (Or.inl rfl)).wi (Or.inl rfl)⟩
      rw [gi_self, gi_self, F.r2, T.row]
      rfl
    · have w' := b2i_n0.mp w
      refine N.bad (v := -3) ?_ (by decide) T
      rw [refR_c (by decide) (by omega) c (by omega), if_neg]
      unfold canR
      rintro (y | y | y | y)
      · exact y.2.2 w'
      · exact absurd y.1 (by decide)
      · exact absurd y.1 (by decide)
      · exact absurd y.1 (by decide)
theorem c_X8_sailNow {dd b : Nat} {P : Option AV → AH → Prop} {h : AH} {d to : Int} (L : LawK h) (hu : 0 ≤ gi h 0 8 ∧ gi h 0 8 ≤ 16) (N : NowM 1 d to h P) : WM GM (dd + 2) b mX8_sailNow [vR (some 0), vI d, vI to] h P := by
  have I1 := L.2.1.1
  have cr : 0 ≤ d ∧ d < gi h 2 1 → -1 ≤ gi h 2 (15 + d) ∧ gi h 2 (15 + d) ≤ 24 := fun z => by
    have := L.2.1.2.1 d z.1 z.2
    omega
  refine w_X8_sailNow ⟨fun c1 => ⟨by omega, fun c => ⟨by omega, fun z => ?_, fun z => ?_⟩, fun c => N.bad (refR_d (by decide) (by omega) c) (by decide) TL.rfl'⟩, fun c => N.bad (refR_by c) (by decide) TL.rfl'⟩
  · have cr' := cr c
    refine ⟨by omega, by omega, by omega, fun w => ?_, fun w => ?_⟩
    · refine N.bad (v := -3) ?_ (by decide) TL.rfl'
      rw [refR_c (by decide) (by omega) c (by omega), if_neg]
      unfold canR
      omega
    · have hz : refR (gi h 2) 1 d to = 0 := by
        rw [refR_c (by decide) (by omega) c (by omega), if_pos]
        unfold canR
        omega
      refine c_X8_remember hu (fun h1 R F => ⟨rfl, ?_⟩)
      rw [F.r2]
      refine ⟨by omega, by omega, by omega, by omega, by omega, fun h2 e2 => ⟨by omega, by omega, ?_⟩⟩
      subst e2
      refine N.2 hz _ ⟨?_, R.w2, (F.mono eU_D).wi (Or.inl rfl)⟩
      rw [gi_self, F.r2]
      rfl
  · refine N.bad (v := -3) ?_ (by decide) TL.rfl'
    rw [refR_c (by decide) (by omega) c (by omega), if_neg]
    unfold canR
    omega
theorem c_X8_fishNow {dd b : Nat} {P : Option AV → AH → Prop} {h : AH} {d to : Int} (L : LawK h) (hu : 0 ≤ gi h 0 8 ∧ gi h 0 8 ≤ 16) (N : NowM 2 d to h P) : WM GM (dd + 7) b mX8_fishNow [vR (some 0), vI d] h P := by
  have I1 := L.2.1.1
  refine w_X8_fishNow ⟨by omega, fun c => ⟨by omega, fun z => ?_, fun z => ?_⟩, fun c => N.bad (refR_d (by decide) (by omega) c) (by decide) TL.rfl'⟩
  · have hz : refR (gi h 2) 2 d to = 0 := by
      rw [refR_c (by decide) (by omega) c (by omega), if_pos]
      unfold canR
      omega
    refine c_X8_remember hu (fun h1 R F => ⟨rfl, ?_⟩)
    refine c_X8_fishIt (L.eu F) (by rw [F.r2]; exact c) (by rw [F.r2]; exact z) ?_
    rw [F.r2]
    refine fun h2 e2 T => ⟨_, rfl, ?_⟩
    exact N.2 hz _ ⟨e2, R.ts T, (F.mono eU_D).trans (T.fr.mono (fun q k z => by unfold eD; omega))⟩
  · refine N.bad (v := -3) ?_ (by decide) TL.rfl'
    rw [refR_c (by decide) (by omega) c (by omega), if_neg]
    unfold canR
    omega
theorem c_X8_hangNow {dd b : Nat} {P : Option AV → AH → Prop} {h : AH} {d to : Int} (L : LawK h) (hu : 0 ≤ gi h 0 8 ∧ gi h 0 8 ≤ 16) (N : NowM 3 d to h P) : WM GM (dd + 6) b mX8_hangNow [vR (some 0), vI d, vI to] h P := by
  have I1 := L.2.1.1
  refine w_X8_hangNow ⟨by omega, fun c => ⟨by omega, fun c2 => ⟨by omega, by omega, fun z => ⟨L.2.1, by omega, fun w => ?_, fun w => ?_⟩, fun z => ?_⟩, fun c2 => N.bad (refR_h c2) (by decide) TL.rfl'⟩, fun c => N.bad (refR_d (by decide) (by omega) c) (by decide) TL.rfl'⟩
  · refine c_X8_fits L c c2 (fun h1 T => ⟨_, rfl, fun v => ?_, fun v => ?_⟩)
    · have v' := b2i_0.mp v
      refine N.bad (v := -3) ?_ (by decide) T
      rw [refR_c (by decide) (by omega) c (by omega), if_neg]
      unfold canR
      rintro (y | y | y | y)
      · exact absurd y.1 (by decide)
      · exact absurd y.1 (by decide)
      · exact absurd y.1 (by decide)
      · exact v' y.2.2.2
    · have v' := b2i_n0.mp v
      have hz : refR (gi h 2) 3 d to = 0 := by
        rw [refR_c (by decide) (by omega) c (by omega), if_pos]
        unfold canR
        exact Or.inr (Or.inr (Or.inr ⟨rfl, z, w, v'⟩))
      refine c_X8_remember (by rw [T.1 0 8 (by omega)]; exact hu) (fun h2 R F => ⟨rfl, by omega, by omega, by omega, by omega, fun h3 e3 => ⟨by omega, by omega, fun h4 e4 => ⟨by omega, by omega, fun h5 e5 => ?_⟩⟩⟩)
      subst e5 e4 e3
      rw [F.r2, T.row]
      refine N.2 hz _ ⟨?_, (R.tl T).w2.w2.w2, ((((T.fr.mono (fun q k z => by unfold eD; omega)).trans (F.mono eU_D)).wi (Or.inl rfl)).wi (Or.inl rfl)).wi (Or.inl rfl)⟩
      rw [gi_self, gi_self, gi_self, F.r2, T.row]
      rfl
  · refine N.bad (v := -3) ?_ (by decide) TL.rfl'
    rw [refR_c (by decide) (by omega) c (by omega), if_neg]
    unfold canR
    rintro (y | y | y | y)
    · exact absurd y.1 (by decide)
    · exact absurd y.1 (by decide)
    · exact absurd y.1 (by decide)
    · exact w y.2.2.1
  · refine N.bad (v := -3) ?_ (by decide) TL.rfl'
    rw [refR_c (by decide) (by omega) c (by omega), if_neg]
    unfold canR
    rintro (y | y | y | y)
    · exact absurd y.1 (by decide)
    · exact absurd y.1 (by decide)
    · exact absurd y.1 (by decide)
    · exact z y.2.1
theorem c_X8_tideNow {dd b : Nat} {P : Option AV → AH → Prop} {h : AH} {d to : Int} (L : LawK h) (hu : 0 ≤ gi h 0 8 ∧ gi h 0 8 ≤ 16) (N : NowM 4 d to h P) : WM GM (dd + 2) b mX8_tideNow [vR (some 0)] h P := by
  have I1 := L.2.1.1
  refine w_X8_tideNow ⟨fun z => N.bad (v := -3) (by rw [refR_4, if_pos (by omega)]) (by decide) TL.rfl', fun z => ?_⟩
  have hz : refR (gi h 2) 4 d to = 0 := by rw [refR_4, if_neg (by omega)]
  refine c_X8_remember hu (fun h1 R F => ⟨rfl, ?_⟩)
  refine c_X8_tideIt (by rw [F.r2]; exact L.2.1) ?_
  rw [F.r2]
  refine fun h2 e2 T => ⟨_, rfl, ?_⟩
  exact N.2 hz _ ⟨e2, R.ts T, (F.mono eU_D).trans (T.fr.mono (fun q k z => by unfold eD; omega))⟩
/-! what can be undone, while the class's trail may hold more -/
def RUj (hX hM : AH) (a j : Int) : Prop := (gi hX 42 (51 * a) = gi hM 6 j ∧ 0 ≤ gi hM 6 j ∧ gi hM 6 j ≤ 4) ∧ gi hX 42 (51 * a + 1) = gi hM 5 (59 * j) ∧ gi hM 5 (59 * j + 1) = gi hM 2 6 ∧
    (∀ i, 0 ≤ i → i < 24 → gi hX 42 (51 * a + 2 + i) = gi hM 5 (59 * j + 2 + i)) ∧
    (∀ i, 0 ≤ i → i < 25 → gi hX 42 (51 * a + 26 + i) = gi hM 5 (59 * j + 34 + i)) ∧
    InvR (backR (gi hM 2) (fun i => gi hM 5 (59 * j + i)))
def RUo (off : Int) (hX hM : AH) : Prop := gi hX 41 1 = off + gi hM 0 8 ∧ 0 ≤ off ∧ (off = 0 ∨ gi hM 0 8 = 16) ∧ 0 ≤ gi hM 0 8 ∧ gi hM 0 8 ≤ 16 ∧ ∀ j, 0 ≤ j → j < gi hM 0 8 → RUj hX hM (off + j) j
theorem RU.o {hX hM : AH} (U : RU hX hM) : RUo 0 hX hM := ⟨by rw [Int.zero_add]; exact U.1, Int.le_refl 0, Or.inl rfl, U.2.1, U.2.2.1, fun j j0 j1 => by
  rw [Int.zero_add]
  exact U.2.2.2 j j0 j1⟩
theorem RUo.u {hX hM : AH} (U : RUo 0 hX hM) : RU hX hM := ⟨by rw [U.1, Int.zero_add], U.2.2.2.1, U.2.2.2.2.1, fun j j0 j1 => by
  have := U.2.2.2.2.2 j j0 j1
  rw [Int.zero_add] at this
  exact this⟩
theorem backR_out {r r' u : Int → Int} (O : Out r r') : backR r' u = backR r u := by
  funext k
  unfold backR
  by_cases c : 5 ≤ k ∧ k < 64
  · rw [if_pos c, if_pos c]
  · rw [if_neg c, if_neg c, O k (by omega)]
theorem backR_self {r : Int → Int} : backR r (fun i => r (5 + i)) = r := by
  funext k
  unfold backR
  by_cases c : 5 ≤ k ∧ k < 64
  · rw [if_pos c]
    show r (5 + (k - 5)) = r k
    congr 1
    omega
  · rw [if_neg c]
theorem backR_congr {r u v : Int → Int} (e : ∀ i, 0 ≤ i → i < 59 → u i = v i) : backR r u = backR r v := by
  funext k
  unfold backR
  by_cases c : 5 ≤ k ∧ k < 64
  · rw [if_pos c, if_pos c, e _ (by omega) (by omega)]
  · rw [if_neg c, if_neg c]
theorem RUo.act {off n kd : Int} {hX hX' hM hM' : AH} {r' : Int → Int} (U : RUo off hX hM) (hk : 0 ≤ kd ∧ kd ≤ 4) (hn : gi hX 41 1 = n) (O : Out (gi hM 2) r') (er : gi hM' 2 = r') (M : RemU kd hM hM') (F : FrX (eA n) hX hX') (n1 : gi hX' 41 1 = n + 1) (K : Kp n kd (gi hM 2) hX') (V : InvR (gi hM 2)) :
    ∃ off', (off' = off ∨ off' = off + 1) ∧ RUo off' hX' hM' := by
  obtain ⟨u1, u2, u3, u4, u5, u6⟩ := U
  obtain ⟨s, hs, m1, m2, m3, m4, m5, -⟩ := M
  refine ⟨off + s, by omega, by omega, by omega, by omega, by omega, by omega, fun j j0 j1 => ?_⟩
  have e6 : r' 6 = gi hM 2 6 := O 6 (by omega)
  by_cases c : j < gi hM 0 8 - s
  · obtain ⟨a1, a2, a3, a4, a5, a6⟩ := u6 (j + s) (by omega) (by omega)
    have x : ∀ k, k < 51 * n → gi hX' 42 k = gi hX 42 k := fun k z => F.1 _ _ (by unfold eA EI eK; omega)
    have e : off + s + j = off + (j + s) := by omega
    rw [e]
    have m5' : ∀ i, 0 ≤ i → i < 59 → gi hM' 5 (59 * j + i) = gi hM 5 (59 * (j + s) + i) := fun i i0 i1 => by
      rw [m5 _ (by omega) (by omega)]
      congr 1
      omega
    refine ⟨?_, ?_, ?_, fun i i0 i1 => ?_, fun i i0 i1 => ?_, ?_⟩
    · rw [x _ (by omega), m3 j j0 c]
      exact a1
    · rw [x _ (by omega), a2]
      have := m5' 0 (by decide) (by decide)
      rw [Int.add_zero, Int.add_zero] at this
      exact this.symm
    · rw [m5' 1 (by decide) (by decide), er, e6]
      exact a3
    · rw [x _ (by omega), a4 i i0 i1, Int.add_assoc, Int.add_assoc, m5' _ (by omega) (by omega)]
    · rw [x _ (by omega), a5 i i0 i1, Int.add_assoc, Int.add_assoc, m5' _ (by omega) (by omega)]
    · rw [er, backR_out O, backR_congr m5']
      exact a6
  · have ej : j = gi hM 0 8 - s := by omega
    have en : off + s + j = n := by omega
    rw [en, ej]
    refine ⟨?_, ?_, ?_, fun i i0 i1 => ?_, fun i i0 i1 => ?_, ?_⟩
    · rw [m2, K.1]
      omega
    · rw [K.2.1]
      have := m4 0 (by decide) (by decide)
      rw [Int.add_zero, Int.add_zero] at this
      exact this.symm
    · rw [m4 1 (by decide) (by decide), er, e6]
      rfl
    · rw [K.2.2.1 i i0 i1, Int.add_assoc, m4 _ (by omega) (by omega)]
      congr 1
      omega
    · rw [K.2.2.2 i i0 i1, Int.add_assoc, m4 _ (by omega) (by omega)]
      congr 1
      omega
    · rw [er, backR_out O, backR_congr (v := fun i => gi hM 2 (5 + i)) (fun i i0 i1 => m4 i i0 i1), backR_self]
      exact V
theorem RUo.trim {off n : Int} {hX hX' hM : AH} (U : RUo off hX hM) (hn : gi hX 41 1 = n) (n1 : gi hX' 41 1 = min n 16) (e : ∀ k, 0 ≤ k → k < 816 → gi hX' 42 k = gi hX 42 (51 * (n - min n 16) + k)) : RU hX' hM := by
  obtain ⟨u1, u2, u3, u4, u5, u6⟩ := U
  have c1 : min n 16 = gi hM 0 8 := by omega
  have c2 : n - min n 16 = off := by omega
  rw [c2] at e
  rw [c1] at n1
  refine ⟨n1, u4, u5, fun j j0 j1 => ?_⟩
  obtain ⟨a1, a2, a3, a4, a5, a6⟩ := u6 j j0 j1
  have x : ∀ t, 0 ≤ t → t < 51 → gi hX' 42 (51 * j + t) = gi hX 42 (51 * (off + j) + t) := fun t t0 t1 => by
    rw [e _ (by omega) (by omega)]
    congr 1
    omega
  refine ⟨?_, ?_, a3, fun i i0 i1 => ?_, fun i i0 i1 => ?_, a6⟩
  · have := x 0 (by decide) (by decide)
    rw [Int.add_zero, Int.add_zero] at this
    rw [this]
    exact a1
  · rw [x 1 (by decide) (by decide)]
    exact a2
  · rw [Int.add_assoc, x _ (by omega) (by omega), ← Int.add_assoc]
    exact a4 i i0 i1
  · rw [Int.add_assoc, x _ (by omega) (by omega), ← Int.add_assoc]
    exact a5 i i0 i1
/-- places that deeds and orders may change in the class -/
def eDX (q : Nat) (k : Int) : Prop := EI 1 q k ∨ (q = 41 ∧ k = 1) ∨ q = 42
theorem eA_D {n : Int} : ∀ q k, eA n q k → eDX q k := fun q k z => by
  unfold eA eK EI at z
  unfold eDX EI
  omega
theorem RRs.deed {n : Nat} {hX hX' hM hM' : AH} (S : RRs n hX hM) (ra : RA hX' 1 (gi hM' 2)) (U : RU hX' hM') (F : FrX eDX hX hX') (G : FrM eD hM hM') : RRs n hX' hM' := by
  obtain ⟨h1, h2, h3, h4, h5, h6, h7⟩ := S
  have x : ∀ q k, ¬ (1 ≤ q ∧ q ≤ 13) → q ≠ 39 → q ≠ 40 → q ≠ 41 → q ≠ 42 → gi hX' q k = gi hX q k := fun q k a1 a2 a3 a4 a5 => F.1 q k (by unfold eDX EI; omega)
  have m : ∀ q k, q ≠ 0 → q ≠ 2 → q ≠ 5 → q ≠ 6 → gi hM' q k = gi hM q k := fun q k a0 a1 a2 a3 => G.1 q k (by unfold eD; omega)
  have m0 : ∀ k, k ≠ 8 → k ≠ 34 → k ≠ 38 → gi hM' 0 k = gi hM 0 k := fun k a1 a2 a3 => G.1 0 k (by unfold eD; omega)
  have dy : DynX hX hX' := F.dyn (fun q k z => by unfold eDX EI at z; omega)
  exact ⟨ra, U,
    h3.to (fun k => x _ _ (by omega) (by omega) (by omega) (by omega) (by omega)) (fun q a b k => x _ _ (by omega) (by omega) (by omega) (by omega) (by omega)) dy (fun q a b k => by rw [F.2.1]) (fun k => m _ _ (by omega) (by omega) (by omega) (by omega)) (fun k => m _ _ (by omega) (by omega) (by omega) (by omega)),
    h4.to (x _ _ (by omega) (by omega) (by omega) (by omega) (by omega)) (fun q a b k => x _ _ (by omega) (by omega) (by omega) (by omega) (by omega)) (fun k => x _ _ (by omega) (by omega) (by omega) (by omega) (by omega)) (m0 _ (by omega) (by omega) (by omega)) (fun k => m _ _ (by omega) (by omega) (by omega) (by omega)) (fun k => m _ _ (by omega) (by omega) (by omega) (by omega)),
    h5.to (x _ _ (by omega) (by omega) (by omega) (by omega) (by omega)) (fun k => x _ _ (by omega) (by omega) (by omega) (by omega) (by omega)) (x _ _ (by omega) (by omega) (by omega) (by omega) (by omega)) (x _ _ (by omega) (by omega) (by omega) (by omega) (by omega)) (x _ _ (by omega) (by omega) (by omega) (by omega) (by omega)) (fun k => x _ _ (by omega) (by omega) (by omega) (by omega) (by omega)) (m0 _ (by omega) (by omega) (by omega)) (fun k => m _ _ (by omega) (by omega) (by omega) (by omega)) (m0 _ (by omega) (by omega) (by omega)) (m0 _ (by omega) (by omega) (by omega)) (m0 _ (by omega) (by omega) (by omega)) (fun k => m _ _ (by omega) (by omega) (by omega) (by omega)),
    h6.to (m0 _ (by omega) (by omega) (by omega)) (fun q z k => G.2 q k (by omega) (by omega) (by omega)), Nat.le_trans h7 dy.1⟩
