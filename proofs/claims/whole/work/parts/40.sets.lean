/-! sets as bits -/
def bt (x : Int32) (i : Nat) : Bool := x.toBitVec.getLsbD i
theorem b_ext {x y : Int32} (h : ∀ i, i < 32 → bt x i = bt y i) : x = y := Int32.toBitVec_inj.mp (BitVec.eq_of_getLsbD_eq (fun i hi => h i hi))
theorem b_and (x y : Int32) (i : Nat) : bt (x &&& y) i = (bt x i && bt y i) := by unfold bt; rw [Int32.toBitVec_and, BitVec.getLsbD_and]
theorem b_xor (x y : Int32) (i : Nat) : bt (x ^^^ y) i = (bt x i ^^ bt y i) := by unfold bt; rw [Int32.toBitVec_xor, BitVec.getLsbD_xor]
theorem b_m1 : ∀ i, i < 32 → bt (Int32.ofInt (-1)) i = true := by decide +kernel
theorem b_0 (i : Nat) : bt 0 i = false := BitVec.getLsbD_zero
theorem b_nI (n : Nat) {i : Nat} (h : i < 32) : bt (nI n) i = n.testBit i := by
  show (BitVec.ofNat 32 n).getLsbD i = _
  rw [BitVec.getLsbD_ofNat]
  simp [h]
theorem ofI_zxor (x y : Int) : Int32.ofInt (zxor x y) = Int32.ofInt x ^^^ Int32.ofInt y := by
  unfold zxor
  rw [Int32.ofInt_toInt]
/-- s is a part of R -/
theorem zsub {s R : Nat} : zand s (zxor R (-1)) = 0 ↔ ∀ i, i < 32 → s.testBit i = true → R.testBit i = true := by
  have e1 : zand s (zxor R (-1)) = 0 ↔ (nI s &&& (nI R ^^^ Int32.ofInt (-1))) = 0 := by
    unfold zand
    rw [ofI_zxor, oI, oI]
    rw [show (0 : Int) = (0 : Int32).toInt from rfl, Int32.toInt_inj]
  rw [e1]
  constructor
  · intro h i hi hs
    have := congrArg (fun x => bt x i) h
    rw [b_and, b_xor, b_m1 i hi, b_nI s hi, b_nI R hi, b_0, hs] at this
    cases hR : R.testBit i
    · rw [hR] at this; cases this
    · rfl
  · intro h
    refine b_ext (fun i hi => ?_)
    rw [b_and, b_xor, b_m1 i hi, b_nI s hi, b_nI R hi, b_0]
    cases hs : s.testBit i
    · rfl
    · rw [h i hi hs]
      rfl
theorem zt {s d : Nat} (hs : s < 2147483648) (hd : d < 32) : zand (zshr s d) 1 = 1 ↔ s.testBit d = true := by
  rw [zbit hs hd, Nat.testBit_eq_decide_div_mod_eq, decide_eq_true_eq]
  unfold bit
  omega
theorem tb_lt {s n : Nat} (h : s < 2 ^ n) {d : Nat} (hd : n ≤ d) : s.testBit d = false := Nat.testBit_lt_two_pow (Nat.lt_of_lt_of_le h (Nat.pow_le_pow_right (by decide) hd))
/-- the bits of a set that was told one by one -/
theorem accB_bits {f : Int → Int} : ∀ (n i s : Nat), i + n < 31 → s < 2 ^ i → ∃ t : Nat, accB f n i s = t ∧ t < 2 ^ (i + n) ∧ ∀ d : Nat, t.testBit d = true ↔ (s.testBit d = true ∨ (i ≤ d ∧ d < i + n ∧ f d = 1))
  | 0, i, s, _, h => ⟨s, rfl, h, fun d => ⟨Or.inl, fun z => by
    rcases z with z | z
    · exact z
    · omega⟩⟩
  | n + 1, i, s, hn, h => by
    have h3 : (2 : Nat) ^ (i + 1) = 2 * 2 ^ i := by rw [Nat.pow_succ]; omega
    have h4 : (2 : Nat) ^ i ≤ 2 ^ 30 := Nat.pow_le_pow_right (by decide) (by omega)
    rw [accB_s, show i + (n + 1) = i + 1 + n by omega]
    by_cases c : f i = 1
    · rw [if_pos c, zshl_1 (by omega), zor_n (by omega) (by omega)]
      obtain ⟨t, t1, t2, t3⟩ := accB_bits (f := f) n (i + 1) (s ||| 2 ^ i) (by omega) (Nat.or_lt_two_pow (by omega) (by omega))
      refine ⟨t, ?_, t2, fun d => ?_⟩
      · rwa [Int.natCast_succ] at t1
      · rw [t3, fb_bit_set, Bool.or_eq_true, decide_eq_true_eq]
        constructor
        · rintro ((a | a) | ⟨a1, a2, a3⟩)
          · exact Or.inl a
          · rw [a]; exact Or.inr ⟨by omega, by omega, c⟩
          · exact Or.inr ⟨by omega, by omega, a3⟩
        · rintro (a | ⟨a1, a2, a3⟩)
          · exact Or.inl (Or.inl a)
          · by_cases z : d = i
            · exact Or.inl (Or.inr z)
            · exact Or.inr ⟨by omega, by omega, a3⟩
    · rw [if_neg c]
      obtain ⟨t, t1, t2, t3⟩ := accB_bits (f := f) n (i + 1) s (by omega) (by omega)
      refine ⟨t, ?_, t2, fun d => ?_⟩
      · rwa [Int.natCast_succ] at t1
      · rw [t3]
        constructor
        · rintro (a | ⟨a1, a2, a3⟩)
          · exact Or.inl a
          · exact Or.inr ⟨by omega, by omega, a3⟩
        · rintro (a | ⟨a1, a2, a3⟩)
          · exact Or.inl a
          · by_cases z : d = i
            · rw [z] at a3
              exact absurd a3 c
            · exact Or.inr ⟨by omega, by omega, a3⟩
theorem sumZ_z {f : Int → Int} : ∀ (n : Nat) (i : Int), (∀ j, i ≤ j → j < i + n → f j = 0) → sumZ f n i = 0
  | 0, _, _ => rfl
  | n + 1, i, h => by
    rw [sumZ_s, h i (by omega) (by omega), sumZ_z n (i + 1) (fun j a b => h j (by omega) (by omega))]
    rfl
theorem sumZ_app (f : Int → Int) (m : Nat) : ∀ (n : Nat) (i : Int), sumZ f (n + m) i = sumZ f n i + sumZ f m (i + n)
  | 0, i => by rw [Nat.zero_add, sumZ_0]; simp
  | n + 1, i => by
    rw [show n + 1 + m = (n + m) + 1 by omega, sumZ_s, sumZ_s, sumZ_app f m n (i + 1), show i + 1 + (n : Int) = i + ((n + 1 : Nat) : Int) by omega]
    omega
/-! fleet -/
abbrev rdyR (r : Int → Int) (d : Int) : Prop := r (7 + d) ≠ -1 ∧ ¬ rBar r d
def catR (r : Int → Int) (d : Int) : Int := if rdyR r d then rCatch r d 0 99 0 else 0
def setR (r : Int → Int) : Int := accB (fun d => b2i (rdyR r d)) (r 1).toNat 0 0
def sumR (r : Int → Int) (s : Int) : Int := sumZ (fun d => if zand (zshr s d) 1 = 1 then catR r d else 0) (r 1).toNat 0
abbrev fOk (r : Int → Int) (f s : Int) : Prop := zand s (zxor (setR r) (-1)) = 0 ∧ f ≤ sumR r s
def fBest (r : Int → Int) (f v : Int) : Prop := (v = -1 ∧ ∀ t, 0 ≤ t → t < 256 → ¬ fOk r f t) ∨ (0 ≤ v ∧ v < 256 ∧ fOk r f v ∧ ∀ t, 0 ≤ t → t < 256 → fOk r f t → pcI v < pcI t ∨ (pcI v = pcI t ∧ v ≤ t))
theorem fBest_one {r : Int → Int} {f v w : Int} (a : fBest r f v) (b : fBest r f w) : v = w := by
  rcases a with ⟨a1, a2⟩ | ⟨a1, a2, a3, a4⟩
  · rcases b with ⟨b1, b2⟩ | ⟨b1, b2, b3, b4⟩
    · omega
    · exact absurd b3 (a2 w b1 b2)
  · rcases b with ⟨b1, b2⟩ | ⟨b1, b2, b3, b4⟩
    · exact absurd a3 (b2 v a1 a2)
    · have h1 := a4 w b1 b2 b3
      have h2 := b4 v a1 a2 a3
      omega
theorem rCatch_R (r : Int → Int) (d c f g : Int) (hf : 0 ≤ f) : 0 ≤ rCatch r d c f g ∧ rCatch r d c f g ≤ f ∧ rCatch r d c f g ≤ 99 := by
  unfold rCatch zwit
  dsimp only
  split <;> split <;> (try split) <;> omega
theorem catR_R (r : Int → Int) (d : Int) : 0 ≤ catR r d ∧ catR r d ≤ 99 := by
  unfold catR
  have := rCatch_R r d 0 99 0 (by decide)
  split <;> omega
theorem setR_bits {r : Int → Int} (h : 0 ≤ r 1 ∧ r 1 ≤ 8) : ∃ t : Nat, setR r = t ∧ t < 256 ∧ t < 2 ^ (r 1).toNat ∧ ∀ d : Nat, t.testBit d = true ↔ ((d : Int) < r 1 ∧ rdyR r d) := by
  obtain ⟨t, t1, t2, t3⟩ := accB_bits (f := fun d => b2i (rdyR r d)) (r 1).toNat 0 0 (by omega) (by decide)
  rw [Nat.zero_add] at t2
  have := pow_256 (n := (r 1).toNat) (by omega)
  refine ⟨t, t1, by omega, t2, fun d => ?_⟩
  rw [t3, Nat.zero_testBit]
  constructor
  · rintro (z | ⟨-, z1, z2⟩)
    · cases z
    · refine ⟨by omega, Decidable.byContradiction fun w => ?_⟩
      rw [b2i_f w] at z2
      cases z2
  · rintro ⟨z1, z2⟩
    exact Or.inr ⟨by omega, by omega, b2i_t z2⟩
/-- a part of those that are ready -/
theorem sub_rdy {r : Int → Int} (h : 0 ≤ r 1 ∧ r 1 ≤ 8) {s : Int} (hs : 0 ≤ s ∧ s < 256) (z : zand s (zxor (setR r) (-1)) = 0) {d : Int} (hd : 0 ≤ d ∧ d < 8) (w : zand (zshr s d) 1 = 1) : d < r 1 ∧ rdyR r d := by
  obtain ⟨t, t1, t2, t3, t4⟩ := setR_bits h
  obtain ⟨a, rfl⟩ : ∃ a : Nat, s = a := ⟨s.toNat, by omega⟩
  obtain ⟨e, rfl⟩ : ∃ a : Nat, d = a := ⟨d.toNat, by omega⟩
  rw [t1, zsub] at z
  rw [zt (by omega) (by omega)] at w
  exact (t4 e).mp (z e (by omega) w)
theorem sub_big {r : Int → Int} (h : 0 ≤ r 1 ∧ r 1 ≤ 8) {s : Int} (hs : ((2 ^ (r 1).toNat : Nat) : Int) ≤ s ∧ s < 256) : ¬ zand s (zxor (setR r) (-1)) = 0 := by
  intro z
  obtain ⟨t, t1, t2, t3, t4⟩ := setR_bits h
  obtain ⟨a, rfl⟩ : ∃ a : Nat, s = a := ⟨s.toNat, by omega⟩
  rw [t1, zsub] at z
  have : a < 2 ^ (r 1).toNat := by
    refine Nat.lt_pow_two_of_testBit a (fun i hi => ?_)
    cases hb : a.testBit i
    · rfl
    · have i32 : i < 32 := Nat.not_le.mp (fun q => by
        have := tb_lt (s := a) (n := 32) (by omega) q
        rw [hb] at this
        cases this)
      have := z i i32 hb
      rw [tb_lt t3 hi] at this
      cases this
  omega
