/-! contracts of small methods that call smaller ones; sums -/
theorem c_X8_isHouse {d b : Nat} {Q : Option AV → AH → Prop} {h : AH} {x : Int} (h0 : 0 ≤ gi h 2 0 ∧ gi h 2 0 ≤ 8) (k : Q (some (vI (b2i (0 ≤ x ∧ x < gi h 2 0)))) h) : WM GM (d + 1) b mX8_isHouse [vR (some 0), vI x] h Q :=
  w_X8_isHouse ⟨by omega, qi k (b2i_c (by omega))⟩
theorem c_X8_isDoor {d b : Nat} {Q : Option AV → AH → Prop} {h : AH} {x : Int} (h0 : 0 ≤ gi h 2 1 ∧ gi h 2 1 ≤ 8) (k : Q (some (vI (b2i (0 ≤ x ∧ x < gi h 2 1)))) h) : WM GM (d + 1) b mX8_isDoor [vR (some 0), vI x] h Q :=
  w_X8_isDoor ⟨by omega, qi k (b2i_c (by omega))⟩
theorem c_X8_isCell {d b : Nat} {Q : Option AV → AH → Prop} {h : AH} {x : Int} (k : Q (some (vI (b2i (0 ≤ x ∧ x < 25)))) h) : WM GM (d + 1) b mX8_isCell [vI x] h Q :=
  w_X8_isCell (qi k (b2i_c (by omega)))
theorem c_X8_canBe {d b : Nat} {Q : Option AV → AH → Prop} {h : AH} {w x : Int} (k : Q (some (vI (b2i (0 ≤ x ∧ ((w = 0 ∧ x ≤ 99) ∨ (w = 1 ∧ x ≤ 4)))))) h) : WM GM (d + 1) b mX8_canBe [vI w, vI x] h Q := by
  refine w_X8_canBe ⟨fun c => qi k (b2i_c (by omega)), fun c => ⟨fun c1 => ⟨fun c2 => qb_t k (by omega), fun c2 => qb_f k (by omega)⟩, fun c1 => qb_f k (by omega)⟩⟩
theorem c_X8_settled {d b : Nat} {Q : Option AV → AH → Prop} {h : AH} {x : Int} (hx : -7 < x) (hb : ∀ i : Int, 0 ≤ i → i < 7 → 0 ≤ gi h 1 i ∧ gi h 1 i ≤ 1000000) (k : Q (some (vI x)) (mTell (si h 0 8 (if x < 0 then gi h 0 8 else 0)) x)) : WM GM (d + 1) b mX8_settled [vR (some 0), vI x] h Q := by
  refine w_X8_settled ⟨fun c h1 e1 => ⟨hx, ?_, fun h2 e2 => ?_⟩, fun c h1 e1 => ⟨hx, ?_, fun h2 e2 => ?_⟩⟩
  · subst e1; exact hb
  · rw [if_neg (by omega)] at k; subst e2; subst e1; exact k
  · subst e1; exact hb
  · rw [if_pos (by omega)] at k; subst e2; subst e1; exact k
theorem c_X7_isNotLost {d b : Nat} {Q : Option AV → AH → Prop} {h : AH} {x z : Int} (h0 : 0 ≤ gi h 1 2 ∧ gi h 1 2 ≤ 8) (hz : 0 ≤ z ∧ z ≤ 2) (hx : R32 x) (k : Q (some (vI (b2i (z ≤ x ∧ x - z < gi h 1 2 ∧ ¬(gi h 7 (x - z) = -1 ∧ gi h 8 (x - z) = -1))))) h) : WM GX (d + 1) b mX7_isNotLost [vR (some 0), vI x, vI z] h Q := by
  refine w_X7_isNotLost ?_
  repeat' (first | refine And.intro ?_ ?_ | (intro (hh : AH) c; subst c) | intro c)
  all_goals first
    | omega
    | exact qb_t k (by omega)
    | exact qb_f k (by omega)
def sumZ (f : Int → Int) : Nat → Int → Int
  | 0, _ => 0
  | n + 1, i => f i + sumZ f n (i + 1)
theorem sumZ_congr {f g : Int → Int} : ∀ (n : Nat) (i : Int), (∀ j, i ≤ j → j < i + n → f j = g j) → sumZ f n i = sumZ g n i
  | 0, _, _ => rfl
  | n + 1, i, h => by
    unfold sumZ
    rw [h i (by omega) (by omega), sumZ_congr n (i + 1) (fun j h1 h2 => h j (by omega) (by omega))]
theorem sumZ_le {f : Int → Int} {m : Int} : ∀ (n : Nat) (i : Int), (∀ j, i ≤ j → j < i + n → 0 ≤ f j ∧ f j ≤ m) → 0 ≤ sumZ f n i ∧ sumZ f n i ≤ m * n
  | 0, _, _ => by unfold sumZ; omega
  | n + 1, i, h => by
    unfold sumZ
    have h1 := h i (by omega) (by omega)
    have h2 := sumZ_le (f := f) (m := m) n (i + 1) (fun j h1 h2 => h j (by omega) (by omega))
    have e : m * ((n + 1 : Nat) : Int) = m * n + m := by rw [Int.natCast_succ, Int.mul_add, Int.mul_one]
    omega
theorem b2i_le (p : Prop) [Decidable p] : 0 ≤ b2i p ∧ b2i p ≤ 1 := by rcases b2i_01 p with e | e <;> omega
theorem lp_open {d b : Nat} {Q : Option AV → AH → Prop} {h : AH} {o : Nat} (ho : isl o) (h8 : 0 ≤ gi h o 2 ∧ gi h o 2 ≤ 8) (h0 : gi h o 0 ≤ 8) : ∀ (n : Nat) (i s : Int), 0 ≤ i → i + n = gi h o 0 → 0 ≤ s → s ≤ i → Q (some (vI (s + sumZ (fun i => b2i (dIn (gi h (o + 6)) i (gi h o 2).toNat 0 = -1)) n i))) h → Lp_X0_open_4 d b Q o s i h
  | 0, i, s, hi, e, s1, s2, k => l_X0_open_4 ho ⟨fun _ => by unfold sumZ at k; rwa [Int.add_zero] at k, fun c => absurd (by omega) c⟩
  | n + 1, i, s, hi, e, s1, s2, k => by
    unfold sumZ at k
    refine l_X0_open_4 ho ⟨fun c => by omega, fun c => ⟨h8, fun c1 => ⟨by omega, by omega, ?_⟩, fun c1 => ⟨by omega, ?_⟩⟩⟩
    · rw [b2i_t c1, ← Int.add_assoc] at k
      exact lp_open ho h8 h0 n (i + 1) (s + 1) (by omega) (by omega) (by omega) (by omega) k
    · rw [b2i_f c1, Int.zero_add] at k
      exact lp_open ho h8 h0 n (i + 1) s (by omega) (by omega) (by omega) (by omega) k
theorem c_X0_open {d b : Nat} {Q : Option AV → AH → Prop} {h : AH} {o : Nat} (ho : isl o) (h8 : 0 ≤ gi h o 2 ∧ gi h o 2 ≤ 8 ∧ 0 ≤ gi h o 0 ∧ gi h o 0 ≤ 8) (k : Q (some (vI (sumZ (fun i => b2i (dIn (gi h (o + 6)) i (gi h o 2).toNat 0 = -1)) (gi h o 0).toNat 0))) h) : WM GX (d + 1) b mX0_open [vR (some o)] h Q :=
  w_X0_open ho (lp_open ho ⟨h8.1, h8.2.1⟩ h8.2.2.2 (gi h o 0).toNat 0 0 (by omega) (by omega) (by omega) (by omega) (by rwa [Int.zero_add]))
theorem lp_lost {d b : Nat} {Q : Option AV → AH → Prop} {h : AH} {o : Nat} (ho : isl o) (h8 : gi h o 2 ≤ 8) : ∀ (n : Nat) (i s : Int), 0 ≤ i → i + n = gi h o 2 → 0 ≤ s → s ≤ i → Q (some (vI (s + sumZ (fun i => b2i (gi h (o + 6) i = -1 ∧ gi h (o + 7) i = -1)) n i))) h → Lp_X0_lost_4 d b Q o s i h
  | 0, i, s, hi, e, s1, s2, k => l_X0_lost_4 ho ⟨fun _ => by unfold sumZ at k; rwa [Int.add_zero] at k, fun c => absurd (by omega) c⟩
  | n + 1, i, s, hi, e, s1, s2, k => by
    unfold sumZ at k
    refine l_X0_lost_4 ho ⟨fun c => by omega, fun c => ⟨by omega, fun c1 => ⟨by omega, by omega, ?_⟩, fun c1 => ⟨by omega, ?_⟩⟩⟩
    · rw [b2i_t c1, ← Int.add_assoc] at k
      exact lp_lost ho h8 n (i + 1) (s + 1) (by omega) (by omega) (by omega) (by omega) k
    · rw [b2i_f c1, Int.zero_add] at k
      exact lp_lost ho h8 n (i + 1) s (by omega) (by omega) (by omega) (by omega) k
theorem c_X0_lost {d b : Nat} {Q : Option AV → AH → Prop} {h : AH} {o : Nat} (ho : isl o) (h8 : 0 ≤ gi h o 2 ∧ gi h o 2 ≤ 8) (k : Q (some (vI (sumZ (fun i => b2i (gi h (o + 6) i = -1 ∧ gi h (o + 7) i = -1)) (gi h o 2).toNat 0))) h) : WM GX (d + 1) b mX0_lost [vR (some o)] h Q :=
  w_X0_lost ho (lp_lost ho h8.2 (gi h o 2).toNat 0 0 (by omega) (by omega) (by omega) (by omega) (by rwa [Int.zero_add]))
theorem lp_openH {d b : Nat} {Q : Option AV → AH → Prop} {h : AH} (hI : InvR (gi h 2)) : ∀ (n : Nat) (i s : Int), 0 ≤ i → i + n = gi h 2 0 → 0 ≤ s → s ≤ i → Q (some (vI (s + sumZ (fun i => b2i (dOf (gi h 2) i = -1)) n i))) h → Lp_X8_openHouses_4 d b Q s i h
  | 0, i, s, hi, e, s1, s2, k => l_X8_openHouses_4 ⟨fun _ => by unfold sumZ at k; rwa [Int.add_zero] at k, fun c => absurd (by omega) c⟩
  | n + 1, i, s, hi, e, s1, s2, k => by
    have h1 := hI.1
    unfold sumZ at k
    refine l_X8_openHouses_4 ⟨fun c => by omega, fun c => ⟨hI, hi, fun c1 => ⟨by omega, by omega, ?_⟩, fun c1 => ⟨by omega, by omega, ?_⟩⟩⟩
    · rw [b2i_t c1, ← Int.add_assoc] at k
      exact lp_openH hI n (i + 1) (s + 1) (by omega) (by omega) (by omega) (by omega) k
    · rw [b2i_f c1, ← Int.add_assoc] at k
      exact lp_openH hI n (i + 1) (s + 0) (by omega) (by omega) (by omega) (by omega) k
theorem c_X8_openHouses {d b : Nat} {Q : Option AV → AH → Prop} {h : AH} (hI : InvR (gi h 2)) (k : Q (some (vI (sumZ (fun i => b2i (dOf (gi h 2) i = -1)) (gi h 2 0).toNat 0))) h) : WM GM (d + 1) b mX8_openHouses [vR (some 0)] h Q := by
  have h1 := hI.1
  exact w_X8_openHouses (lp_openH hI (gi h 2 0).toNat 0 0 (by omega) (by omega) (by omega) (by omega) (by rwa [Int.zero_add]))
theorem lp_lostD {d b : Nat} {Q : Option AV → AH → Prop} {h : AH} (hI : InvR (gi h 2)) : ∀ (n : Nat) (i s : Int), 0 ≤ i → i + n = gi h 2 1 → 0 ≤ s → s ≤ i → Q (some (vI (s + sumZ (fun i => gi h 2 (31 + i)) n i))) h → Lp_X8_lostDoors_4 d b Q s i h
  | 0, i, s, hi, e, s1, s2, k => l_X8_lostDoors_4 ⟨fun _ => by unfold sumZ at k; rwa [Int.add_zero] at k, fun c => absurd (by omega) c⟩
  | n + 1, i, s, hi, e, s1, s2, k => by
    have h1 := hI.1
    have h2 := hI.2.1 i hi (by omega)
    unfold sumZ at k
    rw [← Int.add_assoc] at k
    refine l_X8_lostDoors_4 ⟨fun c => by omega, fun c => ⟨by omega, by omega, by omega, by omega, ?_⟩⟩
    exact lp_lostD hI n (i + 1) (s + gi h 2 (31 + i)) (by omega) (by omega) (by omega) (by omega) k
theorem c_X8_lostDoors {d b : Nat} {Q : Option AV → AH → Prop} {h : AH} (hI : InvR (gi h 2)) (k : Q (some (vI (sumZ (fun i => gi h 2 (31 + i)) (gi h 2 1).toNat 0))) h) : WM GM d b mX8_lostDoors [vR (some 0)] h Q := by
  have h1 := hI.1
  exact w_X8_lostDoors (lp_lostD hI (gi h 2 1).toNat 0 0 (by omega) (by omega) (by omega) (by omega) (by rwa [Int.zero_add]))
