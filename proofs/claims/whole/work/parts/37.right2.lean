/-! right: who hangs where, at first; the reference's count -/
theorem fb_holes : ∀ (m n : Nat) (f : Nat → Nat), (∀ i, i < n → f i < m) → (∀ i j, i < j → j < n → f i ≠ f j) → n ≤ m := by
  intro m
  induction m with
  | zero =>
    intro n f h1 _
    rcases Nat.eq_zero_or_pos n with h | h
    · omega
    · exact absurd (h1 0 h) (Nat.not_lt_zero _)
  | succ m ih =>
    intro n f h1 h2
    by_cases hx : ∃ i, i < n ∧ f i = m
    · obtain ⟨a, ha, hfa⟩ := hx
      have hg := ih (n - 1) (fun i => if i < a then f i else f (i + 1)) (by
        intro i hi
        by_cases q : i < a
        · simp only [if_pos q]
          have b1 := h1 i (by omega)
          have b2 := h2 i a q ha
          omega
        · simp only [if_neg q]
          have b1 := h1 (i + 1) (by omega)
          have b2 := h2 a (i + 1) (by omega) (by omega)
          omega) (by
        intro i j hij hj
        by_cases q : i < a
        · by_cases r : j < a
          · simp only [if_pos q, if_pos r]
            exact h2 i j hij (by omega)
          · simp only [if_pos q, if_neg r]
            exact h2 i (j + 1) (by omega) (by omega)
        · have r : ¬ j < a := by omega
          simp only [if_neg q, if_neg r]
          exact h2 (i + 1) (j + 1) (by omega) (by omega))
      omega
    · have hg := ih n f (fun i hi => by
        have b1 := h1 i hi
        have b2 : f i ≠ m := fun e => hx ⟨i, hi, e⟩
        omega) h2
      omega
theorem fb_bit_nat (n j : Nat) : n &&& 2 ^ j = 0 ↔ n.testBit j = false := by
  constructor
  · intro h
    have h1 : (n &&& 2 ^ j).testBit j = false := by rw [h]; simp
    rw [Nat.testBit_and] at h1
    simpa using h1
  · intro h
    apply Nat.eq_of_testBit_eq
    intro i
    rw [Nat.testBit_and]
    by_cases hi : j = i
    · subst hi; simp [h]
    · first | (simp [Nat.testBit_two_pow, hi]; done) | (simp [Nat.testBit_two_pow_of_ne hi]; done)
theorem fb_bit_set (n j i : Nat) : (n ||| 2 ^ j).testBit i = (n.testBit i || decide (i = j)) := by
  rw [Nat.testBit_or]
  by_cases h : j = i
  · subst h; simp
  · have h2 : ¬ i = j := fun e => h e.symm
    first | (simp [Nat.testBit_two_pow, h, h2]; done) | (simp [Nat.testBit_two_pow_of_ne h, h2]; done)
def swapsR (r : Int → Int) : Int := tot (fC r (dOf r)) L8
theorem InvR.hm {r : Int → Int} (V : InvR r) {d : Int} (h : hgR r d) : D8 (r (88 + d)) := by
  have v1 := V.1
  have := V.2.1 d h.1.1 h.1.2
  exact ⟨by omega, by omega⟩
/-- the first of the class's rows: who hangs in a house -/
def C0 (r c : Int → Int) (i : Int) : Prop := (∀ g, D8 g → c g = -1 ∨ (hgR r (c g) ∧ c g < i ∧ r (7 + c g) = g)) ∧ ∀ d, hgR r d → d < i → c (r (7 + d)) = d
theorem C0.ci {r c : Int → Int} (V : InvR r) (C : C0 r c (r 1)) : CI r c ∧ ∀ g, D8 g → c g = dOf r g := by
  have v1 := V.1
  have hh : ∀ d, hgR r d → D8 (r (7 + d)) := fun d hd => by
    have := V.2.1 d hd.1.1 hd.1.2
    have := hd.2
    exact ⟨by omega, by omega⟩
  refine ⟨⟨fun g hg => (C.1 g hg).imp_right (fun z => z.1), fun g k hg hk e n => ?_, fun d hd => ⟨_, hh d hd, C.2 d hd hd.1.2⟩⟩, fun g hg => ?_⟩
  · have a := (C.1 g hg).resolve_left n
    have b := (C.1 k hk).resolve_left (by rw [← e]; exact n)
    rw [← a.2.2, ← b.2.2, e]
  · rcases dOf_spec (r := r) (x := g) (by omega) with ⟨s1, s2⟩ | ⟨s1, s2, s3⟩
    · rw [s1]
      rcases C.1 g hg with z | z
      · exact z
      · exact absurd z.2.2 (s2 _ z.1.1.1 z.1.1.2)
    · have hd : hgR r (dOf r g) := ⟨⟨s1, s2⟩, by rw [s3]; have := hg.1; omega⟩
      have := C.2 _ hd s2
      rwa [s3] at this
theorem lp_rX3 {d b : Nat} {Q : Option AV → AH → Prop} {h0 : AH} {r : Int → Int} (A0 : RA h0 1 r) (k1 : dup r → ∀ h, KX h0 h → Q (some (vI (-1))) h) (k2 : ¬ dup r → ∀ h, KX h0 h → Q (some (vI (swapsR r))) h) :
    ∀ (n : Nat) (i : Int) (s : Nat) (h : AH), 0 ≤ i → i + n = r 1 → KX h0 h → C0 r (gi h 49) i → s < 256 → (∀ g : Nat, g < 8 → (s.testBit g = true ↔ ∃ e, hgR r e ∧ e < i ∧ r (88 + e) = g)) → (∀ e e', hgR r e → hgR r e' → e < e' → e' < i → r (88 + e) ≠ r (88 + e')) → Lp_X2_fewestSwaps_25 d b Q s i h
  | 0, i, s, h, i0, e, K, C, hs, hb, hn => by
    have V := A0.2.2
    have v1 := V.1
    have A : RA h 1 r := A0.sx (by decide) K.1
    have e1 := A.1.doors
    have ei : i = r 1 := by omega
    subst ei
    have N : ¬ dup r := fun ⟨d, e, d0, d1, d2, d3, d4, d5⟩ => hn d e ⟨⟨d0, by omega⟩, d3⟩ ⟨⟨by omega, d2⟩, d4⟩ d1 d2 d5
    obtain ⟨ci, cd⟩ := C.ci V
    have et : tot (fC r (gi h 49)) L8 = swapsR r := tot_congr L8 _ _ (fun x hx => by
      by_cases c : hgR r x
      · rw [fC_t c, fC_t c, cd _ (V.hm c)]
      · rw [fC_f c, fC_f c]) L8_D
    refine l_X2_fewestSwaps_25 ⟨fun _ => ?_, fun z => absurd (by omega) z⟩
    refine lp_rX1 N (fun d hd => V.hm hd) (by omega) ?_ (k2 N) 8 0 0 h (by decide) (by decide) K (fun d hd => ?_) ci (by omega) (by decide) (fun g' a1 a2 => by omega)
    · exact tot_le L8 _
    · exact (A.1.home (d := d) ⟨hd.1.1, by have := hd.1.2; omega⟩).symm
  | n + 1, i, s, h, i0, e, K, C, hs, hb, hn => by
    have V := A0.2.2
    have v1 := V.1
    have A : RA h 1 r := A0.sx (by decide) K.1
    have e1 := A.1.doors
    have eh := A.1.hangs (d := i) (by omega)
    have em := A.1.home (d := i) (by omega)
    have vi := V.2.1 i i0 (by omega)
    have w1 : -1 ≤ r (7 + i) ∧ r (7 + i) < 8 ∧ 0 ≤ r (88 + i) ∧ r (88 + i) < 8 := by omega
    clear vi
    refine l_X2_fewestSwaps_25 ⟨fun z => by omega, fun _ => ⟨by omega, ?_⟩⟩
    rw [show gi h 7 i = r (7 + i) from eh.symm, show gi h 5 i = r (88 + i) from em.symm]
    refine ⟨fun z => ⟨by omega, ?_⟩, fun z => ⟨by omega, ?_⟩⟩
    · refine lp_rX3 A0 k1 k2 n (i + 1) s h (by omega) (by omega) K ⟨fun g hg => (C.1 g hg).imp_right (fun w => ⟨w.1, by omega, w.2.2⟩), fun d hd d1 => ?_⟩ hs (fun g g8 => ?_) (fun a c ha hc a1 a2 => ?_)
      · by_cases w : d = i
        · rw [w] at hd; exact absurd z hd.2
        · exact C.2 d hd (by omega)
      · rw [hb g g8]
        constructor
        · rintro ⟨a, a1, a2, a3⟩
          exact ⟨a, a1, by omega, a3⟩
        · rintro ⟨a, a1, a2, a3⟩
          refine ⟨a, a1, ?_, a3⟩
          by_cases w : a = i
          · rw [w] at a1; exact absurd z a1.2
          · omega
      · refine hn a c ha hc a1 ?_
        by_cases w : c = i
        · rw [w] at hc; exact absurd z hc.2
        · omega
    · have hi : hgR r i := ⟨⟨i0, by omega⟩, z⟩
      obtain ⟨m, em'⟩ : ∃ m : Nat, r (88 + i) = m := ⟨(r (88 + i)).toNat, by omega⟩
      have pm := pow_256 (n := m) (by omega)
      have pm8 : (2 : Nat) ^ m < 2 ^ 8 := Nat.pow_lt_pow_right (by decide) (by omega)
      rw [em', zshl_1 (by omega), zand_n (by omega), zor_n (by omega) (by omega)]
      have tb : ((s &&& 2 ^ m : Nat) : Int) = 0 ↔ s.testBit m = false := by
        rw [← fb_bit_nat]
        omega
      rw [tb]
      refine ⟨fun c => ⟨by omega, fun h1 e1' => ⟨by omega, ?_⟩⟩, fun c => k1 ?_ h K⟩
      · have nb : ∀ a, hgR r a → a < i → r (88 + a) ≠ m := fun a ha a1 a2 => by
          have := (hb m (by omega)).mpr ⟨a, ha, a1, a2⟩
          rw [this] at c
          cases c
        refine lp_rX3 A0 k1 k2 n (i + 1) _ h1 (by omega) (by omega) ?_ ?_ (Nat.or_lt_two_pow (n := 8) hs pm8) (fun g g8 => ?_) (fun a c' ha hc a1 a2 => ?_)
        · rw [e1']
          exact K.si (by unfold coreX; omega)
        · rw [e1', gi_self]
          refine ⟨fun g hg => ?_, fun a ha a1 => ?_⟩
          · by_cases w : g = r (7 + i)
            · rw [w, up1_eq]
              exact Or.inr ⟨hi, by omega, rfl⟩
            · rw [up1_ne w]
              exact (C.1 g hg).imp_right (fun q => ⟨q.1, by omega, q.2.2⟩)
          · by_cases w : a = i
            · rw [w, up1_eq]
            · have ne : r (7 + a) ≠ r (7 + i) := fun q => by
                have q1 := V.2.2.1 a i ha.1.1 (by omega) (by omega) q
                exact ha.2 q1
              rw [up1_ne ne]
              exact C.2 a ha (by omega)
        · rw [fb_bit_set]
          rw [Bool.or_eq_true, hb g g8, decide_eq_true_eq]
          constructor
          · rintro (⟨a, a1, a2, a3⟩ | a1)
            · exact ⟨a, a1, by omega, a3⟩
            · exact ⟨i, hi, by omega, by rw [em', a1]⟩
          · rintro ⟨a, a1, a2, a3⟩
            by_cases w : a = i
            · rw [w, em'] at a3
              exact Or.inr (by omega)
            · exact Or.inl ⟨a, a1, by omega, a3⟩
        · by_cases w : c' = i
          · rw [w, em']
            exact nb a ha (by omega)
          · exact hn a c' ha hc a1 (by omega)
      · have c2 : s.testBit m = true := by
          cases h : s.testBit m
          · exact absurd h c
          · rfl
        obtain ⟨a, a1, a2, a3⟩ := (hb m (by omega)).mp c2
        exact ⟨a, i, a1.1.1, a2, by omega, a1.2, z, by rw [a3, em']⟩
theorem lp_rX4 {d b : Nat} {Q : Option AV → AH → Prop} {h0 : AH} {r : Int → Int} (k : ∀ h, KX h0 h → (∀ g, D8 g → gi h 49 g = -1) → Lp_X2_fewestSwaps_25 d b Q 0 0 h) : ∀ (n : Nat) (i : Int) (h : AH), 0 ≤ i → i + n = 8 → KX h0 h → (∀ g, 0 ≤ g → g < i → gi h 49 g = -1) → Lp_X2_fewestSwaps_4 d b Q 0 i h
  | 0, i, h, i0, e, K, hc => l_X2_fewestSwaps_4 ⟨fun _ => k h K (fun g hg => hc g hg.1 (by have := hg.2; omega)), fun z => absurd (by omega) z⟩
  | n + 1, i, h, i0, e, K, hc => by
    refine l_X2_fewestSwaps_4 ⟨fun z => by omega, fun _ => ⟨by omega, fun h1 e1 => ⟨by omega, ?_⟩⟩⟩
    subst e1
    refine lp_rX4 (r := r) k n (i + 1) _ (by omega) (by omega) (K.si (by unfold coreX; omega)) (fun g g0 g1 => ?_)
    rw [gi_self]
    by_cases z : g = i
    · rw [z, up1_eq]
    · rw [up1_ne z]
      exact hc g g0 (by omega)
theorem cX_right {d b : Nat} {Q : Option AV → AH → Prop} {h : AH} {r : Int → Int} (A : RA h 1 r) (k1 : dup r → ∀ h', KX h h' → Q (some (vI (-1))) h') (k2 : ¬ dup r → ∀ h', KX h h' → Q (some (vI (swapsR r))) h') : WM GX (d + 1) b mX7_right [vR (some 0)] h Q := by
  have v1 := A.2.2.1
  refine w_X7_right (w_X2_fewestSwaps ?_)
  refine lp_rX4 (h0 := h) (r := r) (fun h' K hc => ?_) 8 0 h (by decide) (by decide) KX.rfl' (fun g g0 g1 => by omega)
  refine lp_rX3 A (fun z h' K => ⟨_, rfl, k1 z h' K⟩) (fun z h' K => ⟨_, rfl, k2 z h' K⟩) (r 1).toNat 0 0 h' (by decide) (by omega) K ⟨fun g hg => Or.inl (hc g hg), fun a ha a1 => by have := ha.1.1; omega⟩ (by decide) (fun g g8 => ?_) (fun a c ha hc' a1 a2 => by have := ha.1.1; omega)
  constructor
  · intro z
    rw [Nat.zero_testBit] at z
    cases z
  · rintro ⟨a, a1, a2, a3⟩
    have := a1.1.1
    omega
/-! the reference: those that don't lead a ring -/
def itr (f : Int → Int) : Nat → Int → Int
  | 0, y => y
  | k + 1, y => f (itr f k y)
theorem itr_s (f : Int → Int) (k : Nat) (y : Int) : itr f (k + 1) y = f (itr f k y) := rfl
theorem itr_add (f : Int → Int) (a : Nat) (y : Int) : ∀ b : Nat, itr f (a + b) y = itr f b (itr f a y)
  | 0 => rfl
  | b + 1 => by
    show f (itr f (a + b) y) = f (itr f b (itr f a y))
    rw [itr_add f a y b]
/-- the first on the way from y that is not above t -/
def Fst (f : Int → Int) (t y z : Int) : Prop := ∃ k : Nat, itr f (k + 1) y = z ∧ z ≤ t ∧ ∀ j : Nat, 1 ≤ j → j ≤ k → t < itr f j y
def FF (f : Int → Int) : Nat → Int → Int
  | 0 => f
  | j + 1 => rmv (FF f j) (7 - j)
theorem FF_s (f : Int → Int) (j : Nat) : FF f (j + 1) = rmv (FF f j) (7 - j) := rfl
theorem FF_fst {f : Int → Int} (J : IJ f) (hr : ∀ x, D8 x → f x < 8) : ∀ j : Nat, j ≤ 7 → IJ (FF f j) ∧ ∀ y : Int, 0 ≤ y → y ≤ 7 - (j : Int) → Fst f (7 - (j : Int)) y (FF f j y)
  | 0, _ => ⟨J, fun y y0 y1 => ⟨0, rfl, by have := hr y ⟨y0, by omega⟩; show f y ≤ _; omega, fun j j0 j1 => by omega⟩⟩
  | j + 1, hj => by
    obtain ⟨IHJ, IH⟩ := FF_fst J hr j (by omega)
    have hd : D8 (7 - (j : Int)) := ⟨by omega, by omega⟩
    rw [FF_s]
    refine ⟨IHJ.rm hd, fun y y0 y1 => ?_⟩
    have hy : D8 y := ⟨y0, by omega⟩
    rw [rmv_ne (by omega)]
    obtain ⟨k, a1, a2, a3⟩ := IH y y0 (by omega)
    by_cases c : FF f j y = 7 - (j : Int)
    · rw [if_pos c]
      obtain ⟨k', b1, b2, b3⟩ := IH (7 - (j : Int)) (by omega) (by omega)
      have ne : FF f j (7 - (j : Int)) ≠ 7 - (j : Int) := fun z => by
        have := IHJ y (7 - (j : Int)) hy hd (c.trans z.symm) (by omega)
        omega
      have e1 : itr f (k + 1) y = 7 - (j : Int) := a1.trans c
      refine ⟨k + 1 + k', ?_, by omega, fun i i0 i1 => ?_⟩
      · rw [show k + 1 + k' + 1 = (k + 1) + (k' + 1) by omega, itr_add, e1]
        exact b1
      · by_cases i2 : i ≤ k
        · have := a3 i i0 i2
          omega
        · by_cases i3 : i = k + 1
          · rw [i3, e1]
            omega
          · obtain ⟨m, rfl⟩ : ∃ m, i = (k + 1) + m := ⟨i - (k + 1), by omega⟩
            rw [itr_add, e1]
            have := b3 m (by omega) (by omega)
            omega
    · rw [if_neg c]
      exact ⟨k, a1, by omega, fun i i0 i1 => by have := a3 i i0 i1; omega⟩
theorem tot_FF (f : Int → Int) : tot f L8 = sumZ (fun x => b2i (FF f (7 - x).toNat x ≠ x)) 8 0 := by
  show b2i (f 7 ≠ 7) + (b2i (FF f 1 6 ≠ 6) + (b2i (FF f 2 5 ≠ 5) + (b2i (FF f 3 4 ≠ 4) + (b2i (FF f 4 3 ≠ 3) + (b2i (FF f 5 2 ≠ 2) + (b2i (FF f 6 1 ≠ 1) + (b2i (FF f 7 0 ≠ 0) + 0))))))) = b2i (FF f 7 0 ≠ 0) + (b2i (FF f 6 1 ≠ 1) + (b2i (FF f 5 2 ≠ 2) + (b2i (FF f 4 3 ≠ 3) + (b2i (FF f 3 4 ≠ 4) + (b2i (FF f 2 5 ≠ 5) + (b2i (FF f 1 6 ≠ 6) + (b2i (f 7 ≠ 7) + 0)))))))
  omega
/-- ways are short -/
theorem itr_inj {f : Int → Int} (J : IJ f) {y : Int} {n : Nat} (hD : ∀ j, j ≤ n → D8 (itr f j y)) : ∀ (i j : Nat), i + j ≤ n → itr f i y = itr f (i + j) y → y = itr f j y
  | 0, j, _, e => by rw [Nat.zero_add] at e; exact e
  | i + 1, j, h, e => by
    refine itr_inj J hD i j (by omega) ?_
    rw [show i + 1 + j = (i + j) + 1 by omega, itr_s, itr_s] at e
    have d1 := hD (i + 1) (by omega)
    rw [itr_s] at d1
    exact J _ _ (hD i (by omega)) (hD (i + j) (by omega)) e (by have := d1.1; omega)
theorem Fst.short {f : Int → Int} (J : IJ f) (hr : ∀ x, D8 x → f x < 8) {x : Int} (hx : D8 x) {k : Nat} (h : ∀ j : Nat, 1 ≤ j → j ≤ k → x < itr f j x) : k ≤ 7 := by
  refine Nat.not_lt.mp (fun k8 => ?_)
  have up : ∀ j : Nat, j ≤ 8 → D8 (itr f j x) := by
    intro j
    induction j with
    | zero => intro _; exact hx
    | succ j ih =>
      intro hj
      have := h (j + 1) (by omega) (by omega)
      have := hr _ (ih (by omega))
      exact ⟨by have := hx.1; omega, this⟩
  have hh := fb_holes 7 8 (fun i => (itr f (i + 1) x - 1).toNat) (fun i hi => by
    have a := up (i + 1) (by omega)
    have b := h (i + 1) (by omega) (by omega)
    have := hx.1
    have := a.2
    omega) (fun i j hij hj e => by
    have a := up (i + 1) (by omega)
    have b := h (i + 1) (by omega) (by omega)
    have a' := up (j + 1) (by omega)
    have b' := h (j + 1) (by omega) (by omega)
    have c := hx.1
    have e2 : itr f (i + 1) x = itr f (i + 1 + (j - i)) x := by
      rw [show i + 1 + (j - i) = j + 1 by omega]
      omega
    have e3 := itr_inj J up (i + 1) (j - i) (by omega) e2
    have := h (j - i) (by omega) (by omega)
    omega)
  omega
