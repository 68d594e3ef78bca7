/-! search, in the reference: all ways, one after the other -/
theorem c_X8_steps {d b : Nat} {Q : Option AV → AH → Prop} {h : AH} {x z : Int} (hx : 0 ≤ x ∧ x < 25) (hz : 0 ≤ z ∧ z < 25) (q : Q (some (vI (dst x z))) h) : WM GM d b mX8_steps [vI x, vI z] h Q := by
  obtain ⟨e1, e2⟩ := tdiv_R hx
  obtain ⟨e3, e4⟩ := tdiv_R hz
  unfold dst at q
  refine w_X8_steps ?_
  rw [e1, e2, e3, e4]
  refine ⟨by omega, by omega, by omega, by omega, by omega, by omega, fun c1 => ⟨fun c2 => ⟨by omega, qi q ?_⟩, fun c2 => ⟨by omega, by omega, qi q ?_⟩⟩, fun c1 => ⟨by omega, fun c2 => ⟨by omega, qi q ?_⟩, fun c2 => ⟨by omega, by omega, qi q ?_⟩⟩⟩
  all_goals unfold zabs
  · rw [if_pos c1, if_pos c2]
  · rw [if_pos c1, if_neg c2]
  · rw [if_neg c1, if_pos c2]
  · rw [if_neg c1, if_neg c2]
def lastP (n : Nat) (τ : Nat → Nat) : Nat → Nat
  | 0 => n
  | k + 1 => τ k
def cstP (n : Nat) (T : Nat → Int) (τ : Nat → Nat) : Nat → Int
  | 0 => 0
  | k + 1 => cstP n T τ k + sdT n T (lastP n τ k) (τ k)
section SM
variable {d b : Nat} {Q : Option AV → AH → Prop} {h0 : AH} {n : Nat} {T : Nat → Int}
theorem cstP_s (τ : Nat → Nat) (k : Nat) : cstP n T τ (k + 1) = cstP n T τ k + sdT n T (lastP n τ k) (τ k) := rfl
theorem lastP_le {τ : Nat → Nat} {k : Nat} (h : ∀ q, q < k → τ q < n) : lastP n τ k ≤ n := by
  match k, h with
  | 0, _ => exact Nat.le_refl _
  | k + 1, h => exact Nat.le_of_lt (h k (by omega))
theorem cstP_R (hT : ∀ i, i < n → 0 ≤ T i ∧ T i < 25) {τ : Nat → Nat} : ∀ k : Nat, (∀ q, q < k → τ q < n) → 0 ≤ cstP n T τ k ∧ cstP n T τ k ≤ 8 * k
  | 0, _ => ⟨Int.le_refl _, Int.le_refl _⟩
  | k + 1, h => by
    have ih := cstP_R hT k (fun q hq => h q (by omega))
    have s := sdT_R hT (lastP_le (fun q hq => h q (show q < k + 1 by omega)) : lastP n τ k ≤ n) (h k (by omega))
    rw [cstP_s]
    omega
theorem cstP_congr {τ τ' : Nat → Nat} : ∀ k : Nat, (∀ q, q < k → τ q = τ' q) → cstP n T τ k = cstP n T τ' k ∧ lastP n τ k = lastP n τ' k
  | 0, _ => ⟨rfl, rfl⟩
  | k + 1, h => by
    obtain ⟨i1, i2⟩ := cstP_congr k (fun q hq => h q (by omega))
    have e := h k (by omega)
    refine ⟨?_, e⟩
    rw [cstP_s, cstP_s, i1, i2, e]
theorem lp_fresh {h : AH} {k : Nat} (hk : k < 8) (q : ∀ v, ((v = 1 ∧ ∀ j : Nat, j < k → gi h 24 j ≠ gi h 24 k) ∨ (v = 0 ∧ ∃ j : Nat, j < k ∧ gi h 24 j = gi h 24 k)) → Q (some (vI v)) h) :
    ∀ (c j : Nat) (v : Int), j + c = k → ((v = 1 ∧ ∀ i : Nat, i < j → gi h 24 i ≠ gi h 24 k) ∨ (v = 0 ∧ ∃ i : Nat, i < k ∧ gi h 24 i = gi h 24 k)) → Lp_X8_isFresh_4 d b Q k v j h
  | 0, j, v, e, hv => by
    refine l_X8_isFresh_4 ⟨fun _ => ⟨by omega, q v ?_⟩, fun z => absurd (by omega) z⟩
    rw [show j = k by omega] at hv
    exact hv
  | c + 1, j, v, e, hv => by
    have nx : ∀ v', ((v' = 1 ∧ ∀ i : Nat, i < j + 1 → gi h 24 i ≠ gi h 24 k) ∨ (v' = 0 ∧ ∃ i : Nat, i < k ∧ gi h 24 i = gi h 24 k)) → Lp_X8_isFresh_4 d b Q k v' ((j : Int) + 1) h := fun v' hv' => by
      have := lp_fresh hk q c (j + 1) v' (by omega) hv'
      rwa [Int.natCast_succ] at this
    refine l_X8_isFresh_4 ⟨fun z => by omega, fun _ => ⟨fun z => ⟨by omega, nx 0 ?_⟩, fun z => ⟨by omega, by omega, fun w => ⟨by omega, nx 0 (Or.inr ⟨rfl, j, by omega, w⟩)⟩, fun w => ⟨by omega, nx 1 ?_⟩⟩⟩⟩
    · rcases hv with ⟨hv, -⟩ | ⟨-, hv⟩
      · omega
      · exact Or.inr ⟨rfl, hv⟩
    · rcases hv with ⟨-, hv⟩ | ⟨hv, -⟩
      · refine Or.inl ⟨rfl, fun i hi => ?_⟩
        by_cases y : i = j
        · rw [y]; exact w
        · exact hv i (by omega)
      · omega
theorem c_X8_isFresh {h : AH} {k : Nat} (hk : k < 8) (q : ∀ v, ((v = 1 ∧ ∀ j : Nat, j < k → gi h 24 j ≠ gi h 24 k) ∨ (v = 0 ∧ ∃ j : Nat, j < k ∧ gi h 24 j = gi h 24 k)) → Q (some (vI v)) h) : WM GM d b mX8_isFresh [vR (some 0), vI k] h Q :=
  w_X8_isFresh (lp_fresh hk q k 0 1 (by omega) (Or.inl ⟨rfl, fun i hi => by omega⟩))
theorem lp_stepsOf {h : AH} (hn : n ≤ 7) (hT : ∀ i, i < n → 0 ≤ T i ∧ T i < 25) (h23 : ∀ i : Nat, i < n → gi h 23 i = T i) {τ : Nat → Nat} (hτ : ∀ q, q < n → τ q < n) (h24 : ∀ q : Nat, q < n → gi h 24 q = τ q) (k0 : Q (some (vI (cstP n T τ n))) h) :
    ∀ (c k : Nat), k + c = n → Lp_X8_stepsOf_7 d b Q n (if lastP n τ k = n then 0 else T (lastP n τ k)) (cstP n T τ k) k h
  | 0, k, e => by
    refine l_X8_stepsOf_7 ⟨fun _ => ?_, fun z => absurd (by omega) z⟩
    rw [show k = n by omega]
    exact k0
  | c + 1, k, e => by
    have hk : k < n := by omega
    have cr := cstP_R hT k (fun q hq => hτ q (by omega))
    have s := sdT_R hT (lastP_le (fun q hq => hτ q (show q < n by omega)) : lastP n τ k ≤ n) (hτ k hk)
    have ps : 0 ≤ (if lastP n τ k = n then 0 else T (lastP n τ k)) ∧ (if lastP n τ k = n then 0 else T (lastP n τ k)) < 25 := by
      split
      · decide
      · exact hT _ (by have := lastP_le (n := n) (τ := τ) (k := k) (fun q hq => hτ q (by omega)); omega)
    have t := hT (τ k) (hτ k hk)
    have hτk := hτ k hk
    refine l_X8_stepsOf_7 ⟨fun z => by omega, fun _ => ⟨by omega, ?_⟩⟩
    rw [h24 k hk, h23 _ hτk]
    refine ⟨by omega, c_X8_steps ps t ⟨_, rfl, ?_⟩⟩
    have es : dst (if lastP n τ k = n then 0 else T (lastP n τ k)) (T (τ k)) = sdT n T (lastP n τ k) (τ k) := rfl
    rw [es, h24 k hk, h23 _ hτk]
    have := lp_stepsOf hn hT h23 hτ h24 k0 c (k + 1) (by omega)
    rw [Int.natCast_succ, cstP_s, show lastP n τ (k + 1) = τ k from rfl, if_neg (by omega)] at this
    exact ⟨by omega, by omega, by omega, by omega, this⟩
theorem c_X8_stepsOf {h : AH} (hn : n ≤ 7) (hT : ∀ i, i < n → 0 ≤ T i ∧ T i < 25) (h23 : ∀ i : Nat, i < n → gi h 23 i = T i) {τ : Nat → Nat} (hτ : ∀ q, q < n → τ q < n) (h24 : ∀ q : Nat, q < n → gi h 24 q = τ q) (k0 : Q (some (vI (cstP n T τ n))) h) : WM GM (d + 1) b mX8_stepsOf [vR (some 0), vI n] h Q := by
  refine w_X8_stepsOf ?_
  have := lp_stepsOf (d := d) (b := b) (Q := Q) hn hT h23 hτ h24 k0 n 0 (by omega)
  rw [show lastP n τ 0 = n from rfl, if_pos rfl] at this
  exact this
abbrev FY (n : Nat) (T : Nat → Int) (h0 h : AH) : Prop := KM h0 h ∧ ∀ i : Nat, i < n → gi h 23 i = T i
theorem FY.put {h : AH} (F : FY n T h0 h) {q : Nat} (hq : q = 24 ∨ q = 25) {i v : Int} : FY n T h0 (si h q i v) := ⟨F.1.si (by unfold coreM; omega), fun i hi => by rw [gi_o (by omega)]; exact F.2 i hi⟩
theorem lp_copy (hn : n ≤ 7) {τ : Nat → Nat} (hτ : ∀ q, q < n → τ q < n) {F v k : Int}
    (k1 : v < F → ∀ h', FY n T h0 h' → (∀ q : Nat, q < n → gi h' 24 q = τ q) → (∀ q : Nat, q < n → gi h' 25 q = T (τ q)) → Lp_X8_findSearch_29 d b Q n v k h') :
    ∀ (c i : Nat) (h : AH), i + c = n → FY n T h0 h → (∀ q : Nat, q < n → gi h 24 q = τ q) → (v < F → ∀ q : Nat, q < i → gi h 25 q = T (τ q)) → (¬ v < F → Lp_X8_findSearch_29 d b Q n F k h) → Lp_X8_findSearch_84 d b Q n F k v i h
  | 0, i, h, e, Y, h24, h25, k2 =>
    l_X8_findSearch_84 ⟨fun _ => ⟨fun z => k2 (by omega), fun z => k1 (by omega) h Y h24 (fun q hq => h25 (by omega) q (by omega))⟩, fun z => absurd (by omega) z⟩
  | c + 1, i, h, e, Y, h24, h25, k2 => by
    have t := hτ i (by omega)
    refine l_X8_findSearch_84 ⟨fun z => by omega, fun _ => ⟨fun z => ⟨fun _ => k2 (by omega), fun w => absurd z w⟩, fun z => ⟨by omega, ?_⟩⟩⟩
    rw [h24 i (by omega), Y.2 _ t]
    refine ⟨by omega, by omega, fun h1 e1 => ⟨by omega, ?_⟩⟩
    have := lp_copy hn hτ k1 c (i + 1) h1 (by omega) (by rw [e1]; exact Y.put (Or.inr rfl)) (fun q hq => by rw [e1, gi_o (by decide)]; exact h24 q hq) (fun w q hq => by
      rw [e1]
      by_cases y : q = i
      · rw [y, gi_eq]
      · rw [gi_nk (by omega)]
        exact h25 w q (by omega)) (fun w => absurd (by omega) w)
    rwa [Int.natCast_succ] at this
def updP (τ : Nat → Nat) (k i : Nat) : Nat → Nat := fun q => if q = k then i else τ q
theorem updP_eq {τ : Nat → Nat} {k i : Nat} : updP τ k i k = i := if_pos rfl
theorem updP_ne {τ : Nat → Nat} {k i q : Nat} (h : q ≠ k) : updP τ k i q = τ q := if_neg h
/-- a node of the search: k cells are chosen (τ), S is left -/
def Node (n : Nat) (k : Nat) (τ : Nat → Nat) (S : Nat) : Prop := (∀ q, q < k → τ q < n) ∧ S < 2 ^ n ∧ pcN 7 S = n - k ∧ ∀ i, i < n → (S.testBit i = true ↔ ∀ q, q < k → τ q ≠ i)
def valP (n : Nat) (T : Nat → Int) (τ : Nat → Nat) (k S i : Nat) : Int := cstP n T τ k + sdT n T (lastP n τ k) i + wy n T i (S - 2 ^ i)
def rowP (n : Nat) (T : Nat → Int) (τ : Nat → Nat) (k S i q : Nat) : Int := if q < k then T (τ q) else if q = k then T i else rowS n T (q - k - 1) i (S - 2 ^ i)
theorem Node.child {k S : Nat} {τ : Nat → Nat} (N : Node n k τ S) (hn : n ≤ 7) {i : Nat} (hi : i < n) (ti : S.testBit i = true) : Node n (k + 1) (updP τ k i) (S - 2 ^ i) := by
  have hp : 2 ^ n ≤ 2 ^ 7 := Nat.pow_le_pow_right (by decide) hn
  obtain ⟨a1, a2, a3, a4⟩ := N
  have dl := pc_del i (by omega) S (by omega) ti
  refine ⟨fun q hq => ?_, by omega, by omega, fun j hj => ?_⟩
  · by_cases y : q = k
    · rw [y, updP_eq]; exact hi
    · rw [updP_ne y]; exact a1 q (by omega)
  · rw [tb_del (by omega) (by omega) (by omega) ti, a4 j hj]
    constructor
    · rintro ⟨b1, b2⟩ q hq
      by_cases y : q = k
      · rw [y, updP_eq]; exact fun z => b2 z.symm
      · rw [updP_ne y]; exact b1 q (by omega)
    · intro b
      refine ⟨fun q hq => ?_, fun z => ?_⟩
      · have := b q (by omega)
        rwa [updP_ne (by omega)] at this
      · have := b k (by omega)
        rw [updP_eq] at this
        exact this z.symm
/-- what the candidates below i gave -/
def InvI (n : Nat) (T : Nat → Int) (τ : Nat → Nat) (k S i : Nat) (F0 : Int) (B0 : Int → Int) (F : Int) (B : Int → Int) : Prop :=
  (∀ j, j < i → S.testBit j = true → F ≤ valP n T τ k S j) ∧ F ≤ F0 ∧ ((F = F0 ∧ ∀ q : Nat, q < n → B q = B0 q) ∨ (F < F0 ∧ ∃ j, j < i ∧ S.testBit j = true ∧ F = valP n T τ k S j ∧ (∀ l, l < j → S.testBit l = true → F < valP n T τ k S l) ∧ ∀ q : Nat, q < n → B q = rowP n T τ k S j q))
theorem InvI.skip {k S i : Nat} {τ : Nat → Nat} {F0 F : Int} {B0 B B' : Int → Int} (I : InvI n T τ k S i F0 B0 F B) (h : S.testBit i = true → F ≤ valP n T τ k S i) (hb : ∀ q : Nat, q < n → B' q = B q) : InvI n T τ k S (i + 1) F0 B0 F B' := by
  obtain ⟨a1, a2, a3⟩ := I
  refine ⟨fun j hj tj => ?_, a2, ?_⟩
  · by_cases y : j = i
    · rw [y] at tj ⊢; exact h tj
    · exact a1 j (by omega) tj
  · rcases a3 with ⟨b1, b2⟩ | ⟨b1, j, b2, b3, b4, b5, b6⟩
    · exact Or.inl ⟨b1, fun q hq => (hb q hq).trans (b2 q hq)⟩
    · exact Or.inr ⟨b1, j, by omega, b3, b4, b5, fun q hq => (hb q hq).trans (b6 q hq)⟩
theorem InvI.take {k S i : Nat} {τ : Nat → Nat} {F0 F : Int} {B0 B B' : Int → Int} (I : InvI n T τ k S i F0 B0 F B) (ti : S.testBit i = true) (h : valP n T τ k S i < F) (hb : ∀ q : Nat, q < n → B' q = rowP n T τ k S i q) : InvI n T τ k S (i + 1) F0 B0 (valP n T τ k S i) B' := by
  obtain ⟨a1, a2, a3⟩ := I
  refine ⟨fun j hj tj => ?_, by omega, Or.inr ⟨by omega, i, by omega, ti, rfl, fun l hl tl => ?_, hb⟩⟩
  · by_cases y : j = i
    · rw [y]; exact Int.le_refl _
    · have := a1 j (by omega) tj
      omega
  · have := a1 l hl tl
    omega
/-- what a node gives -/
theorem InvI.fin (hn : n ≤ 7) (hT : ∀ i, i < n → 0 ≤ T i ∧ T i < 25) {k S : Nat} {τ : Nat → Nat} (N : Node n k τ S) (hk : k < n) {F0 F : Int} {B0 B : Int → Int} (I : InvI n T τ k S n F0 B0 F B) :
    F = (if cstP n T τ k + wy n T (lastP n τ k) S < F0 then cstP n T τ k + wy n T (lastP n τ k) S else F0) ∧ ∀ q : Nat, q < n → B q = if cstP n T τ k + wy n T (lastP n τ k) S < F0 then (if q < k then T (τ q) else rowS n T (q - k) (lastP n τ k) S) else B0 q := by
  have hp : 2 ^ n ≤ 2 ^ 7 := Nat.pow_le_pow_right (by decide) hn
  obtain ⟨n1, n2, n3, n4⟩ := N
  have z : S ≠ 0 := fun w => by rw [(pc_zero S (by omega)).mpr w] at n3; omega
  have hl := lastP_le (n := n) (τ := τ) (k := k) n1
  obtain ⟨x1, x2, x3, x4⟩ := nxS_is hn hT n2 hl z
  have lo : ∀ j, j < n → S.testBit j = true → wy n T (lastP n τ k) S ≤ sdT n T (lastP n τ k) j + wy n T j (S - 2 ^ j) := fun j hj tj => by
    have := (mnf_le (g := gS n T (wy n T) (lastP n τ k) S) n 0 70).2 j (by omega) (by omega)
    rw [← wy_s hn (by omega) z] at this
    unfold gS at this
    rwa [if_pos tj] at this
  have hi : ∀ j, j < nxS n T (lastP n τ k) S → S.testBit j = true → wy n T (lastP n τ k) S < sdT n T (lastP n τ k) j + wy n T j (S - 2 ^ j) := fun j hj tj => by
    have a := x4 j hj
    have c := lo j (by omega) tj
    unfold gS at a
    rw [if_pos tj] at a
    omega
  obtain ⟨a1, a2, a3⟩ := I
  have v : ∀ j, valP n T τ k S j = cstP n T τ k + (sdT n T (lastP n τ k) j + wy n T j (S - 2 ^ j)) := fun j => by unfold valP; omega
  have vx := a1 _ x1 x2
  rw [v, x3] at vx
  rcases a3 with ⟨b1, b2⟩ | ⟨b1, j, b2, b3, b4, b5, b6⟩
  · rw [if_neg (by omega)]
    exact ⟨b1, fun q hq => by rw [if_neg (by omega)]; exact b2 q hq⟩
  · have l1 := lo j b2 b3
    rw [v] at b4
    have ej : j = nxS n T (lastP n τ k) S := by
      by_cases c1 : j < nxS n T (lastP n τ k) S
      · have := hi j c1 b3
        omega
      · by_cases c2 : nxS n T (lastP n τ k) S < j
        · have := b5 _ c2 x2
          rw [v, x3] at this
          omega
        · omega
    rw [if_pos (by omega)]
    refine ⟨by omega, fun q hq => ?_⟩
    rw [if_pos (by omega), b6 q hq]
    unfold rowP
    by_cases c1 : q < k
    · rw [if_pos c1, if_pos c1]
    · rw [if_neg c1, if_neg c1]
      by_cases c2 : q = k
      · rw [if_pos c2, c2, Nat.sub_self, rowS_0, ej]
      · have e : rowS n T (q - k) (lastP n τ k) S = rowS n T (q - k - 1) (nxS n T (lastP n τ k) S) (S - 2 ^ nxS n T (lastP n τ k) S) := by
          obtain ⟨p, ep⟩ : ∃ p, q - k = p + 1 := ⟨q - k - 1, by omega⟩
          rw [ep, rowS_s]
          rfl
        rw [if_neg c2, ej, e]
theorem lp_cand (hn : n ≤ 7) (hT : ∀ i, i < n → 0 ≤ T i ∧ T i < 25) {k : Nat} (hk : k < n) {τ : Nat → Nat} {S : Nat} (N : Node n k τ S) {F0 : Int} {B0 : Int → Int} (hF : 0 ≤ F0 ∧ F0 ≤ 100000000)
    (step : ∀ i, i < n → S.testBit i = true → ∀ h1 F, FY n T h0 h1 → (∀ q : Nat, q < k → gi h1 24 q = τ q) → gi h1 24 k = i → 0 ≤ F ∧ F ≤ 100000000 → (∀ h' F', FY n T h0 h' → (∀ q : Nat, q < k → gi h' 24 q = τ q) → gi h' 24 k = i → F' = (if valP n T τ k S i < F then valP n T τ k S i else F) → (∀ q : Nat, q < n → gi h' 25 q = if valP n T τ k S i < F then rowP n T τ k S i q else gi h1 25 q) → Lp_X8_findSearch_29 d b Q n F' k h') →
      R32 ((n : Int) - 1) ∧ ((k : Int) = (n : Int) - 1 → WM GM (d + 1) 0 mX8_stepsOf [vR (some 0), vI n] h1 (fun r h4 => ∃ u2, r = some (vI u2) ∧ Lp_X8_findSearch_84 d b Q n F k u2 0 h4)) ∧ (¬((k : Int) = (n : Int) - 1) → R32 ((k : Int) + 1) ∧ (0 ≤ (k : Int) + 1 ∧ (k : Int) + 1 < 8) ∧ ∀ h3, h3 = si h1 24 ((k : Int) + 1) (-1) → Lp_X8_findSearch_29 d b Q n F ((k : Int) + 1) h3))
    (kN : ∀ h' F', FY n T h0 h' → (∀ q : Nat, q < k → gi h' 24 q = τ q) → F' = (if cstP n T τ k + wy n T (lastP n τ k) S < F0 then cstP n T τ k + wy n T (lastP n τ k) S else F0) → (∀ q : Nat, q < n → gi h' 25 q = if cstP n T τ k + wy n T (lastP n τ k) S < F0 then (if q < k then T (τ q) else rowS n T (q - k) (lastP n τ k) S) else B0 q) → Lp_X8_findSearch_29 d b Q n F' ((k : Int) + (-1)) h') :
    ∀ (c i : Nat) (h : AH) (F : Int), i + c = n → FY n T h0 h → (∀ q : Nat, q < k → gi h 24 q = τ q) → gi h 24 k = (i : Int) - 1 → 0 ≤ F → InvI n T τ k S i F0 B0 F (gi h 25) → Lp_X8_findSearch_29 d b Q n F k h
  | 0, i, h, F, e, Y, h24, hm, hF0, I => by
    have ei : i = n := by omega
    subst ei
    obtain ⟨f1, f2⟩ := InvI.fin hn hT N hk I
    refine l_X8_findSearch_29 ⟨fun z => by omega, fun _ => ⟨by omega, by omega, by omega, fun h1 e1 => ⟨by omega, fun _ => ⟨by omega, kN h1 F ?_ (fun q hq => ?_) f1 (fun q hq => ?_)⟩, fun z => absurd (by omega) z⟩⟩⟩
    · rw [e1]; exact Y.put (Or.inl rfl)
    · rw [e1, gi_nk (by omega)]; exact h24 q hq
    · rw [e1, gi_o (by decide)]; exact f2 q hq
  | c + 1, i, h, F, e, Y, h24, hm, hF0, I => by
    have hp : 2 ^ n ≤ 2 ^ 7 := Nat.pow_le_pow_right (by decide) hn
    refine l_X8_findSearch_29 ⟨fun z => by omega, fun _ => ⟨by omega, by omega, by omega, fun h1 e1 => ⟨by omega, fun z => by omega, fun _ => ?_⟩⟩⟩
    have Y1 : FY n T h0 h1 := by rw [e1]; exact Y.put (Or.inl rfl)
    have g24 : ∀ q : Nat, q < k → gi h1 24 q = τ q := fun q hq => by rw [e1, gi_nk (by omega)]; exact h24 q hq
    have gk : gi h1 24 k = i := by rw [e1, gi_eq]; omega
    have g25 : ∀ q, gi h1 25 q = gi h 25 q := fun q => by rw [e1, gi_o (by decide)]
    have nx : ∀ h' F', FY n T h0 h' → (∀ q : Nat, q < k → gi h' 24 q = τ q) → gi h' 24 k = i → 0 ≤ F' → InvI n T τ k S (i + 1) F0 B0 F' (gi h' 25) → Lp_X8_findSearch_29 d b Q n F' k h' := fun h' F' Y' a1 a2 a3 a4 => lp_cand hn hT hk N hF step kN c (i + 1) h' F' (by omega) Y' a1 (by omega) a3 a4
    refine c_X8_isFresh (by omega) (fun v hv => ⟨v, rfl, fun z => ?_, fun z => ?_⟩)
    · obtain ⟨j, j1, j2⟩ := (hv.resolve_left (fun q => by omega)).2
      rw [g24 j j1, gk] at j2
      refine nx h1 F Y1 g24 gk hF0 (I.skip (fun t => ?_) (fun q hq => g25 q))
      exact absurd (by omega) ((N.2.2.2 i (by omega)).mp t j j1)
    · have fr := (hv.resolve_right (fun q => z q.1)).2
      have ti : S.testBit i = true := (N.2.2.2 i (by omega)).mpr (fun q hq y => by
        have := fr q hq
        rw [g24 q hq, gk] at this
        omega)
      have cr := cstP_R hT k (fun q hq => N.1 q hq)
      have sr := sdT_R hT (lastP_le (n := n) (τ := τ) (k := k) N.1) (show i < n by omega)
      have dl := pc_del i (by omega) S (by have := N.2.1; omega) ti
      have wr := wy_56 hn hT (S := S - 2 ^ i) (last := i) (by have := N.2.1; omega) (by omega)
      refine step i (by omega) ti h1 F Y1 g24 gk ⟨hF0, by have := I.2.1; omega⟩ (fun h' F' Y' a1 a2 a3 a4 => ?_)
      by_cases w : valP n T τ k S i < F
      · rw [if_pos w] at a3
        rw [a3]
        refine nx h' _ Y' a1 a2 (by unfold valP; omega) (I.take ti w (fun q hq => ?_))
        have := a4 q hq
        rwa [if_pos w] at this
      · rw [if_neg w] at a3
        rw [a3]
        refine nx h' F Y' a1 a2 hF0 (I.skip (fun _ => by omega) (fun q hq => ?_))
        have := a4 q hq
        rw [if_neg w, g25] at this
        exact this
theorem lp_node (hn : n ≤ 7) (hT : ∀ i, i < n → 0 ≤ T i ∧ T i < 25) : ∀ (j k : Nat), k + j + 1 = n → ∀ (τ : Nat → Nat) (S : Nat) (h : AH) (F : Int), Node n k τ S → FY n T h0 h → (∀ q : Nat, q < k → gi h 24 q = τ q) → gi h 24 k = -1 → 0 ≤ F ∧ F ≤ 100000000 →
    (∀ h' F', FY n T h0 h' → (∀ q : Nat, q < k → gi h' 24 q = τ q) → F' = (if cstP n T τ k + wy n T (lastP n τ k) S < F then cstP n T τ k + wy n T (lastP n τ k) S else F) → (∀ q : Nat, q < n → gi h' 25 q = if cstP n T τ k + wy n T (lastP n τ k) S < F then (if q < k then T (τ q) else rowS n T (q - k) (lastP n τ k) S) else gi h 25 q) → Lp_X8_findSearch_29 d b Q n F' ((k : Int) + (-1)) h') →
    Lp_X8_findSearch_29 d b Q n F k h := by
  intro j
  induction j with
  | zero =>
    intro k hk τ S h F N Y h24 hm hF kN
    have hp : 2 ^ n ≤ 2 ^ 7 := Nat.pow_le_pow_right (by decide) hn
    refine lp_cand (B0 := gi h 25) hn hT (show k < n by omega) N hF (fun i hi ti h1 F1 Y1 g24 gk hF1 kk => ⟨by omega, fun _ => ?_, fun z => absurd (by omega) z⟩) kN n 0 h F (by omega) Y h24 (by omega) hF.1 ⟨fun j hj => by omega, Int.le_refl _, Or.inl ⟨rfl, fun q hq => rfl⟩⟩
    have cg := cstP_congr (n := n) (T := T) (τ := τ) (τ' := updP τ k i) k (fun q hq => (updP_ne (by omega)).symm)
    have dl := pc_del i (by omega) S (by have := N.2.1; omega) ti
    have z0 : S - 2 ^ i = 0 := (pc_zero _ (by have := N.2.1; omega)).mp (by have := N.2.2.1; omega)
    have ev : cstP n T (updP τ k i) n = valP n T τ k S i := by
      rw [congrArg (cstP n T (updP τ k i)) (show n = k + 1 by omega), cstP_s, updP_eq, ← cg.1, ← cg.2]
      unfold valP
      rw [z0, wy_0, Int.add_zero]
    have hτ' : ∀ q, q < n → updP τ k i q < n := fun q hq => (N.child hn hi ti).1 q (by omega)
    have g24' : ∀ q : Nat, q < n → gi h1 24 q = updP τ k i q := fun q hq => by
      by_cases y : q = k
      · rw [y, updP_eq]; exact gk
      · rw [updP_ne y]; exact g24 q (by omega)
    refine c_X8_stepsOf hn hT Y1.2 hτ' g24' ⟨_, rfl, ?_⟩
    rw [ev]
    have rp : ∀ q : Nat, q < n → T (updP τ k i q) = rowP n T τ k S i q := fun q hq => by
      unfold rowP
      by_cases y : q = k
      · rw [y, updP_eq, if_neg (by omega), if_pos rfl]
      · rw [updP_ne y, if_pos (by omega)]
    refine lp_copy (h0 := h0) hn hτ' (fun w h' Y' a1 a2 => ?_) n 0 h1 (by omega) Y1 g24' (fun _ q hq => by omega) (fun w => ?_)
    · have := kk h' (valP n T τ k S i) Y' (fun q hq => by rw [a1 q (by omega), updP_ne (by omega)]) (by rw [a1 k (by omega), updP_eq]) (by rw [if_pos w]) (fun q hq => by rw [if_pos w, a2 q hq]; exact rp q hq)
      exact this
    · exact kk h1 F1 Y1 g24 gk (by rw [if_neg w]) (fun q hq => by rw [if_neg w])
  | succ j ih =>
    intro k hk τ S h F N Y h24 hm hF kN
    have hp : 2 ^ n ≤ 2 ^ 7 := Nat.pow_le_pow_right (by decide) hn
    refine lp_cand (B0 := gi h 25) hn hT (show k < n by omega) N hF (fun i hi ti h1 F1 Y1 g24 gk hF1 kk => ⟨by omega, fun z => by omega, fun _ => ⟨by omega, by omega, fun h3 e3 => ?_⟩⟩) kN n 0 h F (by omega) Y h24 (by omega) hF.1 ⟨fun j hj => by omega, Int.le_refl _, Or.inl ⟨rfl, fun q hq => rfl⟩⟩
    have cg := cstP_congr (n := n) (T := T) (τ := τ) (τ' := updP τ k i) k (fun q hq => (updP_ne (by omega)).symm)
    have lk : lastP n (updP τ k i) (k + 1) = i := updP_eq
    have ev : cstP n T (updP τ k i) (k + 1) + wy n T i (S - 2 ^ i) = valP n T τ k S i := by
      rw [cstP_s, updP_eq, ← cg.1, ← cg.2]
      rfl
    have Nc := N.child hn hi ti
    have Y3 : FY n T h0 h3 := by rw [e3]; exact Y1.put (Or.inl rfl)
    have := ih (k + 1) (by omega) (updP τ k i) (S - 2 ^ i) h3 F1 Nc Y3 (fun q hq => ?_) (by rw [e3, Int.natCast_succ, gi_eq]) hF1 (fun h' F' Y' a1 a2 a3 => ?_)
    · rwa [Int.natCast_succ] at this
    · rw [e3, gi_nk (by omega)]
      by_cases y : q = k
      · rw [y, updP_eq]; exact gk
      · rw [updP_ne y]; exact g24 q (by omega)
    · rw [lk, ev] at a2 a3
      rw [show ((k + 1 : Nat) : Int) + (-1) = k by omega]
      refine kk h' F' Y' (fun q hq => by rw [a1 q (by omega), updP_ne (by omega)]) (by rw [a1 k (by omega), updP_eq]) a2 (fun q hq => ?_)
      rw [a3 q hq]
      by_cases w : valP n T τ k S i < F1
      · rw [if_pos w, if_pos w]
        unfold rowP
        by_cases c1 : q < k
        · rw [if_pos (by omega), if_pos c1, updP_ne (by omega)]
        · rw [if_neg c1]
          by_cases c2 : q = k
          · rw [if_pos (by omega), if_pos c2, c2, updP_eq]
          · rw [if_neg (by omega), if_neg c2, show q - (k + 1) = q - k - 1 by omega]
      · rw [if_neg w, if_neg w, e3, gi_o (by decide)]
end SM
theorem c_X8_findSearch {d b : Nat} {Q : Option AV → AH → Prop} {h : AH} {n : Nat} {T : Nat → Int} (hn : n ≤ 7) (hT : ∀ i, i < n → 0 ≤ T i ∧ T i < 25) (h23 : ∀ i : Nat, i < n → gi h 23 i = T i) (k0 : ∀ h', KM h h' → (∀ q : Nat, q < n → gi h' 25 q = rowS n T q n (2 ^ n - 1)) → Q (some (vI (wy n T n (2 ^ n - 1)))) h') : WM GM (d + 2) b mX8_findSearch [vR (some 0), vI n] h Q := by
  have hp : 2 ^ n ≤ 2 ^ 7 := Nat.pow_le_pow_right (by decide) hn
  have hp0 := Nat.two_pow_pos n
  have Y : FY n T h (si h 24 0 (-1)) := FY.put ⟨KM.rfl', h23⟩ (Or.inl rfl)
  refine w_X8_findSearch ⟨fun z => ⟨fun _ h4 e4 => ?_, fun w => absurd z w⟩, fun z => ⟨fun w => absurd w z, fun _ h1 e1 => ?_⟩⟩
  · have n0 : n = 0 := by omega
    subst n0
    rw [e4]
    exact l_X8_findSearch_29 ⟨fun _ => k0 _ Y.1 (fun q hq => by omega), fun w => absurd (by decide) w⟩
  · rw [e1]
    refine lp_node (h0 := h) (T := T) hn hT (n - 1) 0 (by omega) (fun _ => 0) (2 ^ n - 1) _ 100000000 ⟨fun q hq => by omega, by omega, pc_full n (by omega), fun i hi => ⟨fun _ q hq => by omega, fun _ => ?_⟩⟩ Y (fun q hq => by omega) gi_eq (by decide) (fun h' F' Y' a1 a2 a3 => ?_)
    · rw [Nat.testBit_two_pow_sub_one, decide_eq_true_eq]
      exact hi
    · have w := wy_56 (T := T) hn hT (S := 2 ^ n - 1) (last := n) (by omega) (Nat.le_refl _)
      rw [show cstP n T (fun _ => 0) 0 = 0 from rfl, show lastP n (fun _ => 0) 0 = n from rfl, Int.zero_add, if_pos (by omega)] at a2
      rw [a2]
      refine l_X8_findSearch_29 ⟨fun _ => k0 h' Y'.1 (fun q hq => ?_), fun w => absurd (by decide) w⟩
      have := a3 q hq
      rw [show cstP n T (fun _ => 0) 0 = 0 from rfl, show lastP n (fun _ => 0) 0 = n from rfl, Int.zero_add, if_pos (by omega), if_neg (by omega)] at this
      exact this
theorem lp_sM51 {d b : Nat} {Q : Option AV → AH → Prop} {h0 : AH} {a n : Nat} {x2 : Int} (ha : a < 33554432) (hn : pcN 25 a = n) (h7 : n ≤ 7) (hx : -1 ≤ x2 ∧ x2 < n) (k0 : ∀ h', KM h0 h' → Q (some (vI (if x2 = -1 then wy n (tld a) n (2 ^ n - 1) else rowS n (tld a) x2.toNat n (2 ^ n - 1)))) h') :
    ∀ (c x m : Nat) (h : AH), x + c = 25 → KM h0 h → TldI a (gi h 23) m x → Lp_X8_search_51 d b Q a x2 m x h := by
  intro c
  induction c with
  | zero =>
    intro x m h e K H
    have hm := H.1
    rw [show 25 - x = 0 by omega] at hm
    have em : m = n := by
      have : (lstB a 0 x).length = 0 := rfl
      omega
    subst em
    have hT : ∀ i, i < m → 0 ≤ tld a i ∧ tld a i < 25 := fun i hi => tld_R (by omega)
    refine l_X8_search_51 ⟨fun _ => c_X8_findSearch h7 hT H.2.1 (fun h' K' hr => ⟨_, rfl, fun z => ?_, fun z => ⟨by omega, ?_⟩⟩), fun q => absurd (by omega) q⟩
    · have := k0 h' (K.trans K')
      rwa [if_pos z] at this
    · have := k0 h' (K.trans K')
      rw [if_neg z] at this
      have hr' := hr x2.toNat (by omega)
      rw [show ((x2.toNat : Nat) : Int) = x2 by omega] at hr'
      rw [hr']
      exact this
  | succ c ih =>
    intro x m h e K H
    have hle := H.le
    refine l_X8_search_51 ⟨fun q => by omega, fun _ => ?_⟩
    rw [zt (by omega) (by omega)]
    refine ⟨fun t => ⟨by omega, fun h1 e1 => ⟨by omega, by omega, ?_⟩⟩, fun t => ⟨by omega, ?_⟩⟩
    · have := ih (x + 1) (m + 1) h1 (by omega) (by rw [e1]; exact K.si (by unfold coreM; omega)) (H.put (by omega) t (by rw [e1, gi_eq]) (fun i hi => by rw [e1, gi_nk (by omega)]))
      rwa [Int.natCast_succ, Int.natCast_succ] at this
    · have := ih (x + 1) m h (by omega) K (H.pass (by omega) t)
      rwa [Int.natCast_succ] at this
theorem cM_search {d b : Nat} {Q : Option AV → AH → Prop} {h : AH} {x1 x2 : Int} (k : ∀ h', KM h h' → Q (some (vI (fSearch x1 x2))) h') : WM GM (d + 3) b mX8_search [vR (some 0), vI x1, vI x2] h Q := by
  have pl := pcI_le x1
  have k0 := k _ km0
  unfold fSearch at k k0
  refine w_X8_search ?_
  intro _ _ h1 e1
  subst e1
  refine ⟨fun c => ⟨by omega, fun c2 => ?_, fun c2 => ⟨by omega, by omega, fun c3 => ?_, fun c3 => ?_⟩⟩, fun c => ?_⟩
  · rwa [if_neg (by omega)] at k0
  · rw [if_pos ⟨by omega, by omega, by omega, by omega, by omega⟩] at k
    have e : x1 = (x1.toNat : Int) := by omega
    have pe : pcI x1 = (pcN 25 x1.toNat : Nat) := rfl
    have := lp_sM51 (d := d) (b := b) (Q := Q) (h0 := h) (a := x1.toNat) (x2 := x2) (by omega) rfl (by omega) (by omega) k 25 0 0 _ (by decide) km0 (TldI.init _ _)
    rw [← e] at this
    exact this
  · rwa [if_neg (by omega)] at k0
  · rwa [if_neg (by omega)] at k0
theorem q_search {n dx dm : Nat} {hX hM : AH} {Q : Option AV → AH → Prop} {x1 x2 : Int} (R : RR n hX hM) (hn : n < 512) (hQ : ∀ rx hX', WM GM (dm + 3) 0 mX8_search [vR (some 0), vI x1, vI x2] hM (fun rm hM' => RQ n rx rm hX' hM') → Q rx hX') : WM GX (dx + 3) 0 mX7_search [vR (some 0), vI x1, vI x2] hX Q :=
  cX_search R.2.2.2.1.2 (fun _ K => hQ _ _ (cM_search (fun _ K' => RQ.mk rfl (R.kk hn K K'))))
