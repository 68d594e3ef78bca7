/-! deeds in the reference -/
theorem cpy_0 {h : AH} {a b : Nat} {s dp : Int} : cpy h a s b dp 0 = h := by
  have e : (fun (o : Nat) (k : Int) => if o = b ∧ dp ≤ k ∧ k < dp + 0 then h.2.2.1 a (s + (k - dp)) else h.2.2.1 o k) = h.2.2.1 := by
    funext o k
    rw [if_neg (by omega)]
  show (h.1, h.2.1, (fun (o : Nat) (k : Int) => if o = b ∧ dp ≤ k ∧ k < dp + 0 then h.2.2.1 a (s + (k - dp)) else h.2.2.1 o k), h.2.2.2) = h
  rw [e]
theorem cpy_s {h : AH} {a b : Nat} {s dp n : Int} (h0 : 0 ≤ n) : si (cpy h a s b dp n) b (dp + n) (gi h a (s + n)) = cpy h a s b dp (n + 1) := by
  have e : (fun (o : Nat) (k : Int) => if o = b ∧ k = dp + n then gi h a (s + n) else gi (cpy h a s b dp n) o k) = (fun (o : Nat) (k : Int) => if o = b ∧ dp ≤ k ∧ k < dp + (n + 1) then gi h a (s + (k - dp)) else gi h o k) := by
    funext o k
    rw [gi_cpy]
    by_cases c : o = b ∧ k = dp + n
    · rw [if_pos c, if_pos (by omega)]
      congr 1
      omega
    · rw [if_neg c]
      by_cases c2 : o = b ∧ dp ≤ k ∧ k < dp + n
      · rw [if_pos c2, if_pos (by omega)]
      · rw [if_neg c2, if_neg (by omega)]
  show (h.1, h.2.1, (fun (o : Nat) (k : Int) => if o = b ∧ k = dp + n then gi h a (s + n) else gi (cpy h a s b dp n) o k), h.2.2.2) = _
  rw [e]
  rfl
def FrM (E : Nat → Int → Prop) (a b : AH) : Prop := (∀ q k, ¬ E q k → gi b q k = gi a q k) ∧ ∀ q k, q ≠ 18 → q ≠ 20 → (q ≠ 0 ∨ k = 54) → gl b q k = gl a q k
theorem FrM.rfl' {E : Nat → Int → Prop} {a : AH} : FrM E a a := ⟨fun _ _ _ => rfl, fun _ _ _ _ _ => rfl⟩
theorem FrM.trans {E : Nat → Int → Prop} {a b c : AH} (x : FrM E a b) (y : FrM E b c) : FrM E a c := ⟨fun q k z => (y.1 q k z).trans (x.1 q k z), fun q k z w u => (y.2 q k z w u).trans (x.2 q k z w u)⟩
theorem FrM.wi {E : Nat → Int → Prop} {a b : AH} (x : FrM E a b) {q : Nat} {i v : Int} (h : E q i) : FrM E a (si b q i v) := x.trans ⟨fun q' k z => by
  rw [gi_si, if_neg]
  rintro ⟨e1, e2⟩
  exact z (by rw [e1, e2]; exact h), fun _ _ _ _ _ => rfl⟩
theorem FrM.wc {E : Nat → Int → Prop} {a b : AH} (x : FrM E a b) {s t : Nat} {i j n : Int} (h : ∀ k, j ≤ k → k < j + n → E t k) : FrM E a (cpy b s i t j n) := x.trans ⟨fun q' k z => by
  rw [gi_cpy, if_neg]
  rintro ⟨e1, e2, e3⟩
  exact z (by rw [e1]; exact h k e2 e3), fun _ _ _ _ _ => rfl⟩
theorem FrM.mono {E E' : Nat → Int → Prop} {a b : AH} (x : FrM E a b) (h : ∀ q k, E q k → E' q k) : FrM E' a b := ⟨fun q k z => x.1 q k (fun w => z (h q k w)), x.2⟩
theorem TS.fr {a b : AH} (x : TS a b) : FrM (fun q k => q = 2 ∨ (q = 0 ∧ (k = 34 ∨ k = 38))) a b := x
theorem TL.fr {a b : AH} (x : TL a b) : FrM (fun q k => q = 0 ∧ (k = 34 ∨ k = 38)) a b := x
theorem lp_keepAll {dd b : Nat} {Q : Option AV → AH → Prop} {h : AH} {k : Int} (hk : 0 ≤ k ∧ k < 18) (hQ : Q none (cpy h 2 5 5 (59 * k) 59)) : ∀ (n : Nat) (i : Int), 0 ≤ i → i + n = 59 → Lp_X8_keepAll_2 dd b Q k i (cpy h 2 5 5 (59 * k) i)
  | 0, i, h0, e => by
    have : i = 59 := by omega
    subst this
    exact l_X8_keepAll_2 ⟨fun _ => hQ, fun z => by omega⟩
  | n + 1, i, h0, e => by
    refine l_X8_keepAll_2 ⟨fun z => by omega, fun _ => ⟨by omega, by omega, by omega, by omega, by omega, fun h1 e1 => ⟨by omega, ?_⟩⟩⟩
    rw [cpy_out (by omega), cpy_s h0] at e1
    subst e1
    exact lp_keepAll hk hQ n (i + 1) (by omega) (by omega)
theorem c_X8_keepAll {dd b : Nat} {Q : Option AV → AH → Prop} {h : AH} {k : Int} (hk : 0 ≤ k ∧ k < 18) (hQ : Q none (cpy h 2 5 5 (59 * k) 59)) : WM GM dd b mX8_keepAll [vR (some 0), vI k] h Q := by
  have := lp_keepAll (dd := dd) (b := b) hk hQ 59 0 (by decide) (by decide)
  rw [cpy_0] at this
  exact w_X8_keepAll this
theorem lp_putBack {dd b : Nat} {Q : Option AV → AH → Prop} {h : AH} {k : Int} (hk : 0 ≤ k ∧ k < 18) (hQ : Q none (cpy h 5 (59 * k) 2 5 59)) : ∀ (n : Nat) (i : Int), 0 ≤ i → i + n = 59 → Lp_X8_putBack_2 dd b Q k i (cpy h 5 (59 * k) 2 5 i)
  | 0, i, h0, e => by
    have : i = 59 := by omega
    subst this
    exact l_X8_putBack_2 ⟨fun _ => hQ, fun z => by omega⟩
  | n + 1, i, h0, e => by
    refine l_X8_putBack_2 ⟨fun z => by omega, fun _ => ⟨by omega, by omega, by omega, by omega, by omega, fun h1 e1 => ⟨by omega, ?_⟩⟩⟩
    rw [cpy_out (by omega), cpy_s h0] at e1
    subst e1
    exact lp_putBack hk hQ n (i + 1) (by omega) (by omega)
theorem c_X8_putBack {dd b : Nat} {Q : Option AV → AH → Prop} {h : AH} {k : Int} (hk : 0 ≤ k ∧ k < 18) (hQ : Q none (cpy h 5 (59 * k) 2 5 59)) : WM GM dd b mX8_putBack [vR (some 0), vI k] h Q := by
  have := lp_putBack (dd := dd) (b := b) hk hQ 59 0 (by decide) (by decide)
  rw [cpy_0] at this
  exact w_X8_putBack this
/-- a snapshot more, and the oldest gone when there were 16 -/
def RemU (kind : Int) (h h' : AH) : Prop :=
  ∃ s : Int, ((gi h 0 8 = 16 ∧ s = 1) ∨ (gi h 0 8 < 16 ∧ s = 0)) ∧ gi h' 0 8 = gi h 0 8 - s + 1 ∧ gi h' 6 (gi h 0 8 - s) = kind ∧ (∀ j, 0 ≤ j → j < gi h 0 8 - s → gi h' 6 j = gi h 6 (j + s)) ∧
    (∀ i, 0 ≤ i → i < 59 → gi h' 5 (59 * (gi h 0 8 - s) + i) = gi h 2 (5 + i)) ∧ (∀ i, 0 ≤ i → i < 59 * (gi h 0 8 - s) → gi h' 5 i = gi h 5 (i + 59 * s)) ∧ ∀ i, 944 ≤ i → gi h' 5 i = gi h 5 i
theorem RemU.pre {kind : Int} {h h1 h' : AH} (R : RemU kind h1 h') (e8 : gi h1 0 8 = gi h 0 8) (e2 : ∀ k, gi h1 2 k = gi h 2 k) (e5 : ∀ k, gi h1 5 k = gi h 5 k) (e6 : ∀ k, gi h1 6 k = gi h 6 k) : RemU kind h h' := by
  unfold RemU at R
  simp only [e8, e2, e5, e6] at R
  exact R
theorem RemU.post {kind : Int} {h h1 h' : AH} (R : RemU kind h h1) (e8 : gi h' 0 8 = gi h1 0 8) (e5 : ∀ k, gi h' 5 k = gi h1 5 k) (e6 : ∀ k, gi h' 6 k = gi h1 6 k) : RemU kind h h' := by
  unfold RemU
  simp only [e8, e5, e6]
  exact R
def eU (q : Nat) (k : Int) : Prop := q = 5 ∨ q = 6 ∨ (q = 0 ∧ k = 8)
theorem lp_rem41 {dd b : Nat} {Q : Option AV → AH → Prop} {h : AH} {kind : Int} (h8 : gi h 0 8 = 16) (hQ : Q none (si (si (cpy (si (cpy h 6 1 6 0 15) 0 8 15) 2 5 5 885 59) 6 15 kind) 0 8 16)) : ∀ (n : Nat) (i : Int), 0 ≤ i → i + n = 15 → Lp_X8_remember_41 dd b Q kind i (cpy h 6 1 6 0 i)
  | 0, i, h0, e => by
    have : i = 15 := by omega
    subst this
    refine l_X8_remember_41 ⟨fun _ => ?_, fun z => by omega⟩
    rw [cpy_out (by omega), h8]
    refine ⟨by omega, fun h1 e1 => c_X8_keepAll (by omega) ⟨rfl, ?_⟩⟩
    subst e1
    rw [cpy_out (by omega), gi_eq]
    refine ⟨by omega, fun h3 e3 => ⟨by omega, fun h4 e4 => ?_⟩⟩
    subst e4 e3
    exact hQ
  | n + 1, i, h0, e => by
    refine l_X8_remember_41 ⟨fun z => by omega, fun _ => ⟨by omega, by omega, by omega, fun h1 e1 => ⟨by omega, ?_⟩⟩⟩
    have w := cpy_s (h := h) (a := 6) (b := 6) (s := 1) (dp := 0) h0
    rw [Int.zero_add, Int.add_comm 1 i] at w
    rw [cpy_out (by omega), w] at e1
    subst e1
    exact lp_rem41 h8 hQ n (i + 1) (by omega) (by omega)
theorem lp_rem11 {dd b : Nat} {Q : Option AV → AH → Prop} {h : AH} {kind : Int} (hQ : Lp_X8_remember_41 dd b Q kind 0 (cpy h 5 59 5 0 885)) : ∀ (n : Nat) (i : Int), 0 ≤ i → i + n = 885 → Lp_X8_remember_11 dd b Q kind i (cpy h 5 59 5 0 i)
  | 0, i, h0, e => by
    have : i = 885 := by omega
    subst this
    exact l_X8_remember_11 ⟨fun _ => hQ, fun z => by omega⟩
  | n + 1, i, h0, e => by
    refine l_X8_remember_11 ⟨fun z => by omega, fun _ => ⟨by omega, by omega, by omega, fun h1 e1 => ⟨by omega, ?_⟩⟩⟩
    have w := cpy_s (h := h) (a := 5) (b := 5) (s := 59) (dp := 0) h0
    rw [Int.zero_add, Int.add_comm 59 i] at w
    rw [cpy_out (by omega), w] at e1
    subst e1
    exact lp_rem11 hQ n (i + 1) (by omega) (by omega)
theorem c_X8_remember {dd b : Nat} {Q : Option AV → AH → Prop} {h : AH} {kind : Int} (hu : 0 ≤ gi h 0 8 ∧ gi h 0 8 ≤ 16) (hQ : ∀ h', RemU kind h h' → FrM eU h h' → Q none h') : WM GM (dd + 1) b mX8_remember [vR (some 0), vI kind] h Q := by
  refine w_X8_remember ⟨fun z => ?_, fun z => ?_⟩
  · have w := lp_rem11 (dd := dd) (b := b) (Q := Q) (h := h) (kind := kind) ?_ 885 0 (by decide) (by decide)
    · rw [cpy_0] at w
      exact w
    have w := lp_rem41 (dd := dd) (b := b) (Q := Q) (h := cpy h 5 59 5 0 885) (kind := kind) (by rw [cpy_out (by omega)]; exact z) ?_ 15 0 (by decide) (by decide)
    · rw [cpy_0] at w
      exact w
    refine hQ _ ⟨1, Or.inl ⟨z, rfl⟩, ?_, ?_, fun j j0 j1 => ?_, fun i i0 i1 => ?_, fun i i0 i1 => ?_, fun i i0 => ?_⟩ ((((((FrM.rfl'.wc (by unfold eU; omega)).wc (by unfold eU; omega)).wi (by unfold eU; omega)).wc (by unfold eU; omega)).wi (by unfold eU; omega)).wi (by unfold eU; omega))
    · rw [gi_eq, z]
      rfl
    · rw [z, gi_ne (by omega)]
      exact gi_eq
    · rw [gi_ne (by omega), gi_ne (by omega), cpy_out (by omega), gi_ne (by omega), cpy_in (by omega), cpy_out (by omega)]
      congr 1
      omega
    · rw [z, gi_ne (by omega), gi_ne (by omega), cpy_in (by omega), gi_ne (by omega), cpy_out (by omega), cpy_out (by omega)]
      congr 1
      omega
    · rw [gi_ne (by omega), gi_ne (by omega), cpy_out (by omega), gi_ne (by omega), cpy_out (by omega), cpy_in (by omega)]
      congr 1
      omega
    · rw [gi_ne (by omega), gi_ne (by omega), cpy_out (by omega), gi_ne (by omega), cpy_out (by omega), cpy_out (by omega)]
  · refine c_X8_keepAll (by omega) ⟨rfl, ?_⟩
    rw [cpy_out (by omega)]
    refine ⟨by omega, fun h2 e2 => ⟨by omega, fun h3 e3 => ?_⟩⟩
    subst e3 e2
    refine hQ _ ⟨0, Or.inr ⟨by omega, rfl⟩, ?_, ?_, fun j j0 j1 => ?_, fun i i0 i1 => ?_, fun i i0 i1 => ?_, fun i i0 => ?_⟩ (((FrM.rfl'.wc (by unfold eU; omega)).wi (by unfold eU; omega)).wi (by unfold eU; omega))
    · rw [gi_eq, Int.sub_zero]
    · rw [Int.sub_zero, gi_ne (by omega)]
      exact gi_eq
    · rw [gi_ne (by omega), gi_ne (by omega), cpy_out (by omega), Int.add_zero]
    · rw [gi_ne (by omega), gi_ne (by omega), cpy_in (by omega)]
      congr 1
      omega
    · rw [gi_ne (by omega), gi_ne (by omega), cpy_out (by omega)]
      congr 1
      omega
    · rw [gi_ne (by omega), gi_ne (by omega), cpy_out (by omega)]
/-! what is done -/
theorem c_X8_fishIt {dd b : Nat} {Q : Option AV → AH → Prop} {h : AH} {d : Int} (L : LawK h) (hd : 0 ≤ d ∧ d < gi h 2 1) (hs : gi h 2 (15 + d) ≠ -1) (hQ : ∀ h', gi h' 2 = fishR (gi h 2) d (rCatch (gi h 2) d (gi h 2 (15 + d)) (gi h 2 (39 + gi h 2 (15 + d))) (gi h 2 (23 + d))) → TS h h' → Q (some (vI (rCatch (gi h 2) d (gi h 2 (15 + d)) (gi h 2 (39 + gi h 2 (15 + d))) (gi h 2 (23 + d))))) h') : WM GM (dd + 6) b mX8_fishIt [vR (some 0), vI d] h Q := by
  have I1 := L.2.1.1
  have I2 := L.2.1.2.1 d hd.1 hd.2
  have cb : 0 ≤ gi h 2 (15 + d) ∧ gi h 2 (15 + d) < 25 ∧ 0 ≤ gi h 2 (23 + d) ∧ gi h 2 (23 + d) ≤ 999 := by omega
  clear I2
  have I3 := L.2.1.2.2.2.1 (gi h 2 (15 + d)) cb.1 cb.2.1
  have rc := rCatch_R (gi h 2) d (gi h 2 (15 + d)) (gi h 2 (39 + gi h 2 (15 + d))) (gi h 2 (23 + d)) I3.1
  refine w_X8_fishIt ⟨by omega, by omega, by omega, by omega, by omega, by omega, ?_⟩
  refine c_X8_catches L hd (by omega) (by omega) (by omega) (fun h1 T => ⟨_, rfl, ?_⟩)
  have e2 : gi h1 2 = gi h 2 := T.row
  rw [e2]
  refine ⟨by omega, by omega, by omega, by omega, by omega, by omega, fun h2 w2 => ⟨by omega, by omega, ?_, by omega, fun h3 w3 => ?_⟩⟩
  · rw [w2, gi_ne (by omega), e2]
    omega
  have ez : zwit (gi h 2 (23 + d) + rCatch (gi h 2) d (gi h 2 (15 + d)) (gi h 2 (39 + gi h 2 (15 + d))) (gi h 2 (23 + d))) 0 999 = min (gi h 2 (23 + d) + rCatch (gi h 2) d (gi h 2 (15 + d)) (gi h 2 (39 + gi h 2 (15 + d))) (gi h 2 (23 + d))) 999 := by
    unfold zwit
    split
    · omega
    split <;> omega
  rw [w2, gi_ne (by omega), e2, ez] at w3
  refine hQ h3 ?_ ?_
  · rw [w3, gi_self, gi_self, e2]
    rfl
  · rw [w3]
    exact T.ts.w2.w2
theorem lp_tide83 {dd b : Nat} {Q : Option AV → AH → Prop} {s : Int} : ∀ (n : Nat) (c : Int) (h : AH), InvR (gi h 2) → 0 ≤ c → c + n = 25 → (∀ h', gi h' 2 = up1 (tdC n c (gi h 2)) 5 ((tdC n c (gi h 2)) 5 + 1) → TS h h' → Q (some (vI s)) h') → Lp_X8_tideIt_83 dd b Q s c h
  | 0, c, h, V, h0, hn, k => by
    have V1 := V.1
    refine l_X8_tideIt_83 ⟨fun _ => ⟨by omega, fun h1 e1 => ?_⟩, fun z => by omega⟩
    subst e1
    exact k _ gi_self TS.rfl'.w2
  | n + 1, c, h, V, h0, hn, k => by
    have I3 := V.2.2.2.1 c h0 (by omega)
    have ez : zwit (gi h 2 (39 + c) + 1) 0 99 = min (gi h 2 (39 + c) + 1) 99 := by
      unfold zwit
      split
      · omega
      split <;> omega
    unfold tdC at k
    refine l_X8_tideIt_83 ⟨fun z => by omega, fun _ => ?_⟩
    rw [ez]
    refine ⟨by omega, by omega, by omega, by omega, by omega, by omega, fun h1 e1 => ⟨by omega, ?_⟩⟩
    have er : gi h1 2 = up1 (gi h 2) (39 + c) (min (gi h 2 (39 + c) + 1) 99) := by rw [e1, gi_self]
    have T : TS h h1 := by
      rw [e1]
      exact TS.rfl'.w2
    refine lp_tide83 n (c + 1) h1 ?_ (by omega) (by omega) (fun h' e' T' => k h' ?_ (T.trans T'))
    · rw [er]
      exact V.fish (by omega) (by omega)
    · rw [e', er]
theorem lp_tide4 {dd b : Nat} {Q : Option AV → AH → Prop} : ∀ (n : Nat) (d s : Int) (h : AH), InvR (gi h 2) → 0 ≤ d → d + n = gi h 2 1 → 0 ≤ s → s ≤ d → (∀ h', gi h' 2 = tdD n d (gi h 2) → TS h h' → Lp_X8_tideIt_83 dd b Q (s + tdN n d (gi h 2)) 0 h') → Lp_X8_tideIt_4 dd b Q s d h
  | 0, d, s, h, V, h0, hn, s0, s1, k => by
    have := k h rfl TS.rfl'
    unfold tdN at this
    rw [Int.add_zero] at this
    exact l_X8_tideIt_4 ⟨fun _ => this, fun z => by omega⟩
  | n + 1, d, s, h, V, h0, hn, s0, s1, k => by
    have I1 := V.1
    have I2 := V.2.1 d h0 (by omega)
    have cr : -1 ≤ gi h 2 (15 + d) ∧ gi h 2 (15 + d) ≤ 24 := by omega
    clear I2
    unfold tdD tdN at k
    refine l_X8_tideIt_4 ⟨fun z => by omega, fun _ => ⟨by omega, fun z => ?_, fun z => ⟨by omega, ?_⟩⟩⟩
    · rw [if_neg z, if_neg z] at k
      have zb := zbes_R (c := gi h 2 (15 + d)) (x := gi h 2 (104 + gi h 2 (15 + d))) (by omega)
      refine ⟨by omega, by omega, by omega, by omega, by omega, by omega, by omega, by omega, by omega, fun h1 e1 => ⟨fun w => ⟨by omega, fun h2 e2 => ⟨by omega, by omega, ?_⟩⟩, fun w => ⟨by omega, ?_⟩⟩⟩
      · rw [if_pos w, if_pos w] at k
        have er : gi h2 2 = loseR (gi h 2) d := by
          rw [e2, e1, gi_self, gi_self, gi_self, up1_up1]
          rfl
        have T : TS h h2 := by
          rw [e2, e1]
          exact TS.rfl'.w2.w2.w2
        refine lp_tide4 n (d + 1) (s + 1) h2 ?_ (by omega) ?_ (by omega) (by omega) (fun h' e' T' => ?_)
        · rw [er]
          exact V.lose (by omega) z
        · rw [er, (Out.lose (r := gi h 2) (d := d) (by omega)) 1 (by omega)]
          omega
        · have := k h' (by rw [e', er]) (T.trans T')
          rw [er, Int.add_assoc]
          exact this
      · rw [if_neg w, if_neg w] at k
        have er : gi h1 2 = up1 (gi h 2) (15 + d) (zbes (gi h 2 (15 + d)) (gi h 2 (104 + gi h 2 (15 + d)))) := by rw [e1, gi_self]
        have T : TS h h1 := by
          rw [e1]
          exact TS.rfl'.w2
        refine lp_tide4 n (d + 1) s h1 ?_ (by omega) ?_ s0 (by omega) (fun h' e' T' => ?_)
        · rw [er]
          exact V.sea (by omega) z (by omega)
        · rw [er, up1_ne (by omega)]
          omega
        · have := k h' (by rw [e', er]) (T.trans T')
          rw [er]
          exact this
    · have z' : gi h 2 (15 + d) = -1 := by omega
      rw [if_pos z', if_pos z'] at k
      exact lp_tide4 n (d + 1) s h V (by omega) (by omega) s0 (by omega) k
theorem c_X8_tideIt {dd b : Nat} {Q : Option AV → AH → Prop} {h : AH} (V : InvR (gi h 2)) (hQ : ∀ h', gi h' 2 = tideR (gi h 2) → TS h h' → Q (some (vI (tideN (gi h 2)))) h') : WM GM (dd + 1) b mX8_tideIt [vR (some 0)] h Q := by
  have I1 := V.1
  refine w_X8_tideIt (lp_tide4 (gi h 2 1).toNat 0 0 h V (by decide) (by omega) (by decide) (by decide) (fun h1 e1 T => ?_))
  rw [Int.zero_add]
  refine lp_tide83 25 0 h1 ?_ (by decide) (by decide) (fun h2 e2 T2 => hQ h2 ?_ (T.trans T2))
  · rw [e1]
    exact tdD_V _ 0 _ (by decide) (by omega) V
  · rw [e2, e1]
    rfl
