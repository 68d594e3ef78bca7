theorem drf_1 {f : Int → Int} {c : Int} (h : 0 ≤ c ∧ c < 25) : drf f (Int.toNat 1) c = zbes c (f c) := by
  show drf f 1 c = _
  unfold drf
  rw [if_pos h]
  rfl
theorem lp_flow63 {dd b : Nat} {Q : Option AV → AH → Prop} {o : Nat} {s : Int} (ho : isl o) : ∀ (n : Nat) (c : Int) (r : Int → Int) (h : AH), RA h o r → r 5 < 999 → 0 ≤ c → c + n = 25 → (∀ h', RA h' o (up1 (tdC n c r) 5 ((tdC n c r) 5 + 1)) → FrX (EI o) h h' → Q (some (vI s)) h') → Lp_X0_flow_63 dd b Q o s c h
  | 0, c, r, h, A, h5, h0, hn, k => by
    have I1 := A.2.2.1
    have e5 : r 5 = gi h o 14 := A.1.day
    have F : FrX (EI o) h (si h o 14 (gi h o 14 + 1)) := FrX.rfl'.wi (by unfold EI; omega)
    refine l_X0_flow_63 ho ⟨fun _ => ⟨by omega, fun h1 e1 => ?_⟩, fun z => by omega⟩
    subst e1
    refine k _ (A.fr F (EI_77 ho) (Out.rfl'.up (Or.inl rfl)) ?_ (A.2.2.day (by unfold tdC; omega))) F
    unfold tdC
    rw [← e5]
    exact A.1.set (by unfold okP; omega) (a := o) (by show o = o + 0; omega) rfl
  | n + 1, c, r, h, A, h5, h0, hn, k => by
    have I3 := A.2.2.2.2.2.1 c h0 (by omega)
    have l2 := la_39 (c := c) (by omega)
    have ef : r (39 + c) = gi h (o + 9) c := A.1.fish (by omega)
    have F : FrX (EI o) h (si h (o + 9) c (min (r (39 + c) + 1) 99)) := FrX.rfl'.wi (by unfold EI; omega)
    have B : RA (si h (o + 9) c (min (r (39 + c) + 1) 99)) o (up1 r (39 + c) (min (r (39 + c) + 1) 99)) := A.fr F (EI_77 ho) (Out.rfl'.up (by omega)) (A.1.set (by unfold okP; omega) (by rw [l2.1]) l2.2.symm) (A.2.2.fish (by omega) (by omega))
    refine l_X0_flow_63 ho ⟨fun z => by omega, fun _ => ?_⟩
    rw [← ef]
    refine ⟨by omega, by omega, by omega, fun h1 e1 => ⟨by omega, ?_⟩⟩
    subst e1
    exact lp_flow63 ho n (c + 1) _ _ B (by rw [up1_ne (by omega)]; exact h5) (by omega) (by omega) (fun h' A' F' => k h' A' (F.trans F'))
theorem lp_flow4 {dd b : Nat} {Q : Option AV → AH → Prop} {o : Nat} (ho : isl o) : ∀ (n : Nat) (d s : Int) (r : Int → Int) (h : AH), RA h o r → 0 ≤ d → d + n = r 1 → 0 ≤ s → s ≤ d → (∀ h', RA h' o (tdD n d r) → FrX (EI o) h h' → Lp_X0_flow_63 dd b Q o (s + tdN n d r) 0 h') → Lp_X0_flow_4 dd b Q o s d h
  | 0, d, s, r, h, A, h0, hn, s0, s1, k => by
    have e1 : r 1 = gi h o 2 := A.1.doors
    have := k h A FrX.rfl'
    unfold tdN at this
    rw [Int.add_zero] at this
    exact l_X0_flow_4 ho ⟨fun _ => this, fun z => by omega⟩
  | n + 1, d, s, r, h, A, h0, hn, s0, s1, k => by
    have I1 := A.2.2.1
    have I2 := A.2.2.2.1 d h0 (by omega)
    have cr : -1 ≤ r (15 + d) ∧ r (15 + d) ≤ 24 := by omega
    clear I2
    have e1 : r 1 = gi h o 2 := A.1.doors
    have c8 : 0 ≤ d ∧ d < 8 := by omega
    have ec : r (15 + d) = gi h (o + 7) d := A.1.cell c8
    have l1 := la_15 c8
    unfold tdD tdN at k
    refine l_X0_flow_4 ho ⟨fun z => by omega, fun _ => ⟨c8, ?_⟩⟩
    rw [← ec]
    refine ⟨fun z => ⟨by omega, ?_⟩, fun z => ?_⟩
    · rw [if_pos z, if_pos z] at k
      exact lp_flow4 ho n (d + 1) s r h A (by omega) (by omega) s0 (by omega) k
    have cb : 0 ≤ r (15 + d) ∧ r (15 + d) < 25 := by omega
    have ed : r (104 + r (15 + d)) = gi h (o + 10) (r (15 + d)) := A.1.drift cb
    have zb := zbes_R (c := r (15 + d)) (x := r (104 + r (15 + d))) cb
    rw [if_neg z, if_neg z] at k
    rw [drf_1 cb, ← ed]
    refine ⟨c8, by omega, by omega, c8, fun h1 e2 => ⟨c8, fun w => ⟨by omega, by omega, ?_⟩, fun w => ⟨by omega, ?_⟩⟩⟩
    · rw [if_pos w, if_pos w] at k
      rw [w] at e2
      have F : FrX (EI o) h h1 := by
        rw [e2]
        exact FrX.rfl'.wi (by unfold EI; omega)
      have B : RA h1 o (loseR r d) := by
        refine A.fr F (EI_77 ho) (Out.lose c8) ?_ (A.2.2.lose (by omega) z)
        unfold loseR
        refine RIs.setM ?_ (by unfold okP; omega)
        rw [e2]
        exact A.1.set (by unfold okP; omega) (by rw [l1.1]) l1.2.symm
      refine lp_flow4 ho n (d + 1) (s + 1) _ h1 B (by omega) ?_ (by omega) (by omega) (fun h' A' F' => ?_)
      · unfold loseR
        rw [up1_ne (by omega), up1_ne (by omega)]
        omega
      · rw [Int.add_assoc]
        exact k h' A' (F.trans F')
    · rw [if_neg w, if_neg w] at k
      have F : FrX (EI o) h h1 := by
        rw [e2]
        exact FrX.rfl'.wi (by unfold EI; omega)
      have B : RA h1 o (up1 r (15 + d) (zbes (r (15 + d)) (r (104 + r (15 + d))))) := by
        refine A.fr F (EI_77 ho) (Out.rfl'.up (by omega)) ?_ (A.2.2.sea (by omega) z (by omega))
        rw [e2]
        exact A.1.set (by unfold okP; omega) (by rw [l1.1]) l1.2.symm
      refine lp_flow4 ho n (d + 1) s _ h1 B (by omega) ?_ s0 (by omega) (fun h' A' F' => k h' A' (F.trans F'))
      rw [up1_ne (by omega)]
      omega
theorem c_X0_flow {dd b : Nat} {Q : Option AV → AH → Prop} {h : AH} {o : Nat} {r : Int → Int} (ho : isl o) (A : RA h o r) (h5 : r 5 < 999) (hQ : ∀ h', RA h' o (tideR r) → FrX (EI o) h h' → Q (some (vI (tideN r))) h') : WM GX (dd + 2) b mX0_flow [vR (some o)] h Q := by
  have I1 := A.2.2.1
  have e5 := tide_5 (r := r) (by omega)
  refine w_X0_flow ho (lp_flow4 ho (r 1).toNat 0 0 r h A (by decide) (by omega) (by decide) (by decide) (fun h1 B F => ?_))
  rw [Int.zero_add]
  refine lp_flow63 ho 25 0 _ h1 B ?_ (by decide) (by decide) (fun h2 C F2 => hQ h2 C (F.trans F2))
  have q : ∀ (n : Nat) (c : Int) (s : Int → Int), 0 ≤ c → (tdC n c s) 5 = s 5 := by
    intro n
    induction n with
    | zero => intro c s _; rfl
    | succ n ih =>
      intro c s h0
      unfold tdC
      rw [ih (c + 1) _ (by omega), up1_ne (by omega)]
  rw [← q 25 0 (tdD (r 1).toNat 0 r) (by decide), e5]
  exact h5
/-! the trail -/
theorem cpy_in {h : AH} {a b : Nat} {s dp n k : Int} (w : dp ≤ k ∧ k < dp + n) : gi (cpy h a s b dp n) b k = gi h a (s + (k - dp)) := by rw [gi_cpy, if_pos ⟨rfl, w⟩]
theorem cpy_out {h : AH} {a b o : Nat} {s dp n k : Int} (w : o ≠ b ∨ k < dp ∨ dp + n ≤ k) : gi (cpy h a s b dp n) o k = gi h o k := by rw [gi_cpy, if_neg (by omega)]
theorem gi_ne {h : AH} {a o : Nat} {i v k : Int} (w : o ≠ a ∨ k ≠ i) : gi (si h a i v) o k = gi h o k := by rw [gi_si, if_neg (by omega)]
/-- what is kept of a row at index n -/
def Kp (n kind : Int) (r : Int → Int) (h : AH) : Prop := gi h 42 (51 * n) = kind ∧ gi h 42 (51 * n + 1) = r 5 ∧ (∀ i, 0 ≤ i → i < 24 → gi h 42 (51 * n + 2 + i) = r (7 + i)) ∧ ∀ i, 0 ≤ i → i < 25 → gi h 42 (51 * n + 26 + i) = r (39 + i)
def eK (n : Int) (q : Nat) (k : Int) : Prop := (q = 41 ∧ k = 1) ∨ (q = 42 ∧ 51 * n ≤ k ∧ k < 51 * n + 51)
theorem c_X6_keep {dd b : Nat} {Q : Option AV → AH → Prop} {h : AH} {r : Int → Int} {kind n : Int} (en : gi h 41 1 = n) (h0 : 0 ≤ n ∧ n < 256) (A : RIs h 1 r) (hQ : ∀ h', FrX (eK n) h h' → gi h' 41 1 = n + 1 → Kp n kind r h' → Q none h') : WM GX (dd + 2) b mX6_keep [vR (some 41), vI kind, vR (some 1)] h Q := by
  refine w_X6_keep ⟨fun _ => ?_, fun z => by omega⟩
  rw [en]
  refine ⟨by omega, by omega, fun h1 e1 => ⟨by omega, by omega, fun h2 e2 => ⟨by omega, by omega, by omega, by omega, fun h3 e3 => ⟨by omega, by omega, by omega, by omega, by omega, fun h4 e4 => ⟨by omega, by omega, by omega, by omega, by omega, fun h5 e5 => ⟨by omega, by omega, by omega, by omega, by omega, fun h6 e6 => ⟨?_, fun h7 e7 => ?_⟩⟩⟩⟩⟩⟩⟩
  · subst e6 e5 e4 e3 e2 e1
    simp (disch := omega) only [cpy_out, gi_ne]
    omega
  have e : gi h6 41 1 = n := by
    subst e6 e5 e4 e3 e2 e1
    simp (disch := omega) only [cpy_out, gi_ne]
    exact en
  have F : FrX (eK n) h h7 := by
    subst e7 e6 e5 e4 e3 e2 e1
    exact ((((((FrX.rfl'.wi (by unfold eK; omega)).wi (by unfold eK; omega)).wc (by unfold eK; omega)).wc (by unfold eK; omega)).wc (by unfold eK; omega)).wc (by unfold eK; omega)).wi (by unfold eK; omega)
  refine hQ h7 F (by rw [e7, gi_eq, e]) ⟨?_, ?_, fun i i0 i1 => ?_, fun i i0 i1 => ?_⟩
  · subst e7 e6 e5 e4 e3 e2 e1
    rw [Int.mul_comm n 51]
    simp (disch := omega) only [cpy_out, gi_ne, gi_eq]
  · have := A.day
    subst e7 e6 e5 e4 e3 e2 e1
    rw [Int.mul_comm n 51]
    simp (disch := omega) only [cpy_out, gi_ne, gi_eq]
    exact this.symm
  · have w1 : 0 ≤ i ∧ i < 8 → r (7 + i) = gi h 7 i := fun z => A.hangs z
    have w2 : 0 ≤ i - 8 ∧ i - 8 < 8 → r (15 + (i - 8)) = gi h 8 (i - 8) := fun z => A.cell z
    have w3 : 0 ≤ i - 16 ∧ i - 16 < 8 → r (23 + (i - 16)) = gi h 9 (i - 16) := fun z => A.caught z
    subst e7 e6 e5 e4 e3 e2 e1
    rw [Int.mul_comm n 51]
    by_cases c1 : i < 8
    · simp (disch := omega) only [cpy_out, gi_ne, cpy_in]
      rw [w1 ⟨i0, c1⟩]
      congr 1
      omega
    by_cases c2 : i < 16
    · simp (disch := omega) only [cpy_out, gi_ne, cpy_in]
      rw [show 7 + i = 15 + (i - 8) by omega, w2 (by omega)]
      congr 1
      omega
    · simp (disch := omega) only [cpy_out, gi_ne, cpy_in]
      rw [show 7 + i = 23 + (i - 16) by omega, w3 (by omega)]
      congr 1
      omega
  · have w1 : r (39 + i) = gi h 10 i := A.fish ⟨i0, i1⟩
    subst e7 e6 e5 e4 e3 e2 e1
    rw [Int.mul_comm n 51]
    simp (disch := omega) only [cpy_out, gi_ne, cpy_in]
    rw [w1]
    congr 1
    omega
theorem c_X6_trim {dd b : Nat} {Q : Option AV → AH → Prop} {h : AH} {n : Int} (en : gi h 41 1 = n) (h0 : 0 ≤ n ∧ n ≤ 256) (hQ : ∀ h', FrX (fun q k => (q = 41 ∧ k = 1) ∨ q = 42) h h' → gi h' 41 1 = min n 16 → (∀ k, 0 ≤ k → k < 816 → gi h' 42 k = gi h 42 (51 * (n - min n 16) + k)) → Q none h') : WM GX (dd + 1) b mX6_trim [vR (some 41)] h Q := by
  refine w_X6_trim ?_
  rw [en]
  refine ⟨by omega, fun z => ⟨by omega, by omega, by omega, by omega, fun h1 e1 h2 e2 => ?_⟩, fun z => ?_⟩
  · subst e2 e1
    refine hQ _ ((FrX.rfl'.wc (by omega)).wi (by omega)) (by rw [gi_eq]; omega) (fun k k0 k1 => ?_)
    rw [gi_ne (by omega), cpy_in (by omega)]
    congr 1
    omega
  · refine hQ h FrX.rfl' (by omega) (fun k k0 k1 => ?_)
    congr 1
    omega
/-- what a deed may change -/
def eA (n : Int) (q : Nat) (k : Int) : Prop := EI 1 q k ∨ eK n q k
theorem eA_77 {n : Int} : ∀ q k, eA n q k → q < 76 := fun q k h => by
  unfold eA EI eK at h
  omega
theorem eA_k {n : Int} : ∀ q k, eK n q k → eA n q k := fun _ _ h => Or.inr h
theorem eA_i {n : Int} : ∀ q k, EI 1 q k → eA n q k := fun _ _ h => Or.inl h
theorem Kp.fr {n kind : Int} {r : Int → Int} {a b : AH} (K : Kp n kind r a) (e : ∀ k, gi b 42 k = gi a 42 k) : Kp n kind r b := by
  unfold Kp
  simp only [e]
  exact K
theorem up1_comm {r : Int → Int} {i j v w : Int} (h : i ≠ j) : up1 (up1 r i v) j w = up1 (up1 r j w) i v := by
  funext k
  unfold up1
  by_cases c : k = i
  · rw [if_neg (by omega), if_pos c, if_pos c]
  · rw [if_neg c, if_neg c]
theorem canR_of {r : Int → Int} {k d to : Int} (h4 : k ≠ 4) (hz : refR r k d to = 0) : (0 ≤ d ∧ d < r 1) ∧ (k = 3 → 0 ≤ to ∧ to < r 0) ∧ (k = 1 → 1 ≤ to ∧ to ≤ 4) ∧ canR r k d to := by
  unfold refR at hz
  rw [if_neg h4] at hz
  split at hz
  · omega
  next c1 =>
  split at hz
  · omega
  next c2 =>
  split at hz
  · omega
  next c3 =>
  split at hz
  next c4 => exact ⟨by omega, by omega, by omega, c4⟩
  · omega
theorem c_X7_act {dd b : Nat} {Q : Option AV → AH → Prop} {h : AH} {r : Int → Int} {k d to n : Int} (A : RA h 1 r) (hk : k = 0 ∨ k = 1 ∨ k = 2 ∨ k = 3 ∨ k = 4) (hz : refR r k d to = 0) (en : gi h 41 1 = n) (h0 : 0 ≤ n ∧ n < 256)
    (hQ : ∀ h', RA h' 1 (actR r k d to) → InvR (actR r k d to) → Out r (actR r k d to) → FrX (eA n) h h' → gi h' 41 1 = n + 1 → Kp n k r h' → Q (some (vI (actN r k d to))) h') : WM GX (dd + 4) b mX7_act [vR (some 0), vI k, vI d, vI to] h Q := by
  have I1 := A.2.2.1
  refine w_X7_act (c_X6_keep (dd := dd + 1) en h0 A.1 (fun h1 F1 n1 K1 => ⟨rfl, ?_⟩))
  have B : RA h1 1 r := A.to (fun c hc k => F1.1 _ _ (by unfold eK; omega)) (F1.dyn (fun q k z => by unfold eK at z; omega)) (fun i => by rw [F1.2.1])
  have fin : ∀ (h' : AH) (r' : Int → Int) (v : Int), FrX (EI 1) h1 h' → RIs h' 1 r' → r' = actR r k d to → v = actN r k d to → InvR (actR r k d to) → Out r (actR r k d to) → Q (some (vI v)) h' := fun h' r' v F I er ev V O => by
    rw [ev]
    refine hQ h' (B.fr F (EI_77 (by decide)) O (er ▸ I) V) V O ((F1.mono eA_k).trans (F.mono eA_i)) ?_ (K1.fr (fun k => F.1 _ _ (by unfold EI; omega)))
    rw [F.1 _ _ (by unfold EI; omega), n1]
  have o1 : isl 1 := by decide
  by_cases k4 : k = 4
  · subst k4
    rw [refR_4] at hz
    have h5 : r 5 < 999 := by
      split at hz <;> omega
    refine ⟨fun z => absurd z (by decide), fun _ => ⟨fun z => absurd z (by decide), fun _ => ⟨fun z => absurd z (by decide), fun _ => ⟨fun z => absurd z (by decide), fun _ => ?_⟩⟩⟩⟩
    exact c_X0_flow o1 B h5 (fun h2 C F => ⟨_, rfl, fin h2 _ _ F C.1 rfl rfl (tide_V A.2.2 h5) (Out.tide (by omega))⟩)
  obtain ⟨hd, hto, hby, can⟩ := canR_of k4 hz
  have c8 : 0 ≤ d ∧ d < 8 := by omega
  have I2 := A.2.2.2.1 d hd.1 hd.2
  have ec : r (15 + d) = gi h1 8 d := B.1.cell c8
  have eg : r (23 + d) = gi h1 9 d := B.1.caught c8
  have l7 := la_7 c8
  have l15 := la_15 c8
  have l23 := la_23 c8
  have cr : -1 ≤ r (15 + d) ∧ r (15 + d) ≤ 24 ∧ 0 ≤ r (23 + d) ∧ r (23 + d) ≤ 999 := by omega
  clear I2
  unfold canR at can
  rcases hk with z | z | z | z | z
  · subst z
    refine ⟨fun _ => ⟨c8, fun h2 e2 => ⟨c8, fun h3 e3 => ?_⟩⟩, fun z => absurd rfl z⟩
    have c : r (7 + d) ≠ -1 := by
      rcases can with y | y | y | y
      · exact y.2.1
      · exact absurd y.1 (by decide)
      · exact absurd y.1 (by decide)
      · exact absurd y.1 (by decide)
    subst e3 e2
    refine fin _ (launchR r d) 0 ((FrX.rfl'.wi (by unfold EI; omega)).wi (by unfold EI; omega)) ?_ rfl rfl (A.2.2.launch hd c) (Out.launch c8)
    unfold launchR
    exact (B.1.set (by unfold okP; omega) (by rw [l7.1]) l7.2.symm).set (by unfold okP; omega) (by rw [l15.1]) l15.2.symm
  · subst z
    rw [← ec]
    have c : ¬ r (15 + d) = -1 ∧ ¬ zbes (r (15 + d)) to = -1 := by omega
    have zb := zbes_R (c := r (15 + d)) (x := to) (by omega)
    refine ⟨fun z => absurd z (by decide), fun _ => ⟨fun _ => ⟨c8, by omega, c8, fun h2 e2 => ⟨c8, ?_⟩⟩, fun z => absurd rfl z⟩⟩
    subst e2
    refine fin _ (up1 r (15 + d) (zbes (r (15 + d)) to)) _ (FrX.rfl'.wi (by unfold EI; omega)) ?_ rfl rfl (A.2.2.sea hd c.1 (by omega)) (Out.rfl'.up (by omega))
    exact B.1.set (by unfold okP; omega) (by rw [l15.1]) l15.2.symm
  · subst z
    have c : ¬ r (15 + d) = -1 := by omega
    have cb : 0 ≤ r (15 + d) ∧ r (15 + d) < 25 := by omega
    have ef : r (39 + r (15 + d)) = gi h1 10 (r (15 + d)) := B.1.fish cb
    have I3 := A.2.2.2.2.2.1 (r (15 + d)) cb.1 cb.2
    have rc := rCatch_R r d (r (15 + d)) (r (39 + r (15 + d))) (r (23 + d)) I3.1
    rw [← ec, ← ef]
    refine ⟨fun z => absurd z (by decide), fun _ => ⟨fun z => absurd z (by decide), fun _ => ⟨fun _ => ⟨c8, by omega, ?_⟩, fun z => absurd rfl z⟩⟩⟩
    refine c_X1_catchOf o1 B hd (by omega) (by omega) (fun h2 J => ⟨_, rfl, ?_⟩)
    refine c_X0_take o1 (B.jx o1 J) hd c (by omega) (fun h3 C F => ⟨rfl, ?_⟩)
    refine fin h3 _ _ ((J.fr.mono (fun q k z => Or.inr z)).trans F) C.1 rfl rfl (A.2.2.fishes hd c (by omega)) (Out.fish c8 cb)
  · subst z
    have c : r (15 + d) = 0 ∧ dOf r to = -1 := by
      rcases can with y | y | y | y
      · exact absurd y.1 (by decide)
      · exact absurd y.1 (by decide)
      · exact absurd y.1 (by decide)
      · exact ⟨y.2.1, y.2.2.1⟩
    rw [← eg]
    refine ⟨fun z => absurd z (by decide), fun _ => ⟨fun z => absurd z (by decide), fun _ => ⟨fun z => absurd z (by decide), fun _ => ⟨fun _ => ⟨c8, c8, fun h2 e2 => ⟨c8, fun h3 e3 => ⟨c8, fun h4 e4 => ?_⟩⟩⟩, fun z => absurd rfl z⟩⟩⟩⟩
    have ho : ∀ e, 0 ≤ e → e < r 1 → r (7 + e) ≠ to := by
      rcases dOf_spec (r := r) (x := to) (by omega) with ⟨-, y⟩ | ⟨y, -⟩
      · exact y
      · omega
    subst e4 e3 e2
    refine fin _ (hangR r d to) _ (((FrX.rfl'.wi (by unfold EI; omega)).wi (by unfold EI; omega)).wi (by unfold EI; omega)) ?_ rfl rfl (A.2.2.hangs hd (by omega) (hto rfl) ho) (Out.hang c8)
    unfold hangR
    rw [up1_comm (i := 15 + d) (j := 7 + d) (by omega)]
    exact ((B.1.set (by unfold okP; omega) (by rw [l7.1]) l7.2.symm).set (by unfold okP; omega) (by rw [l15.1]) l15.2.symm).set (by unfold okP; omega) (by rw [l23.1]) l23.2.symm
  · exact absurd z k4
