/-! bits: the machine's operations on small numbers, and how many bits a number has -/
theorem oI (n : Nat) : Int32.ofInt (n : Int) = nI n := Int32.toBitVec_inj.mp (by show BitVec.ofInt 32 (n : Int) = BitVec.ofNat 32 n; simp)
theorem shc : ∀ n, n < 32 → ((nI n &&& 31).toBitVec.smod 32).toNat = n := by decide +kernel
theorem shu : ∀ n, n < 32 → (((nI n).toUInt32 &&& Int32.toUInt32 31).toBitVec % 32).toNat = n := by decide +kernel
theorem n_and (a b : Nat) : nI a &&& nI b = nI (a &&& b) := by
  apply Int32.toBitVec_inj.1
  show BitVec.ofNat 32 a &&& BitVec.ofNat 32 b = BitVec.ofNat 32 (a &&& b)
  apply BitVec.eq_of_getLsbD_eq
  intro i hi
  simp [hi]
theorem n_or (a b : Nat) : nI a ||| nI b = nI (a ||| b) := by
  apply Int32.toBitVec_inj.1
  show BitVec.ofNat 32 a ||| BitVec.ofNat 32 b = BitVec.ofNat 32 (a ||| b)
  apply BitVec.eq_of_getLsbD_eq
  intro i hi
  simp [hi]
theorem n_xor (a b : Nat) : nI a ^^^ nI b = nI (a ^^^ b) := by
  apply Int32.toBitVec_inj.1
  show BitVec.ofNat 32 a ^^^ BitVec.ofNat 32 b = BitVec.ofNat 32 (a ^^^ b)
  apply BitVec.eq_of_getLsbD_eq
  intro i hi
  simp [hi]
theorem zand_n {a b : Nat} (hb : b < 2147483648) : zand a b = ((a &&& b : Nat) : Int) := by
  unfold zand
  have : a &&& b ≤ b := Nat.and_le_right
  rw [oI, oI, n_and, nI_toInt (by omega)]
theorem zor_n {a b : Nat} (ha : a < 2147483648) (hb : b < 2147483648) : zor a b = ((a ||| b : Nat) : Int) := by
  unfold zor
  have : a ||| b < 2 ^ 31 := Nat.or_lt_two_pow (by omega) (by omega)
  rw [oI, oI, n_or, nI_toInt this]
theorem zxor_n {a b : Nat} (ha : a < 2147483648) (hb : b < 2147483648) : zxor a b = ((a ^^^ b : Nat) : Int) := by
  unfold zxor
  have : a ^^^ b < 2 ^ 31 := Nat.xor_lt_two_pow (by omega) (by omega)
  rw [oI, oI, n_xor, nI_toInt this]
theorem zshr_n {a k : Nat} (ha : a < 2147483648) (hk : k < 32) : zshr a k = ((a / 2 ^ k : Nat) : Int) := by
  unfold zshr
  have : a / 2 ^ k ≤ a := Nat.div_le_self _ _
  rw [oI, oI, pk_shrN (by omega) _ k (shc k hk), nI_toInt (by omega)]
theorem zushr_n {a k : Nat} (ha : a < 2147483648) (hk : k < 32) : zushr a k = ((a / 2 ^ k : Nat) : Int) := by
  unfold zushr
  have : a / 2 ^ k ≤ a := Nat.div_le_self _ _
  rw [oI, oI, pk_ushrN (by omega) _ k (shu k hk), nI_toInt (by omega)]
theorem zshl_n {a k : Nat} (hk : k < 32) (h : a * 2 ^ k < 2147483648) : zshl a k = ((a * 2 ^ k : Nat) : Int) := by
  unfold zshl
  rw [oI, oI, pk_shlN _ k (shc k hk) (by omega), nI_toInt (by omega)]
theorem zor_R (a b : Int) : R32 (zor a b) := r32_of _
theorem zand_R (a b : Int) : R32 (zand a b) := r32_of _
theorem zxor_R (a b : Int) : R32 (zxor a b) := r32_of _
theorem zshl_R (a b : Int) : R32 (zshl a b) := r32_of _
theorem zor_0 {a : Int} (h : R32 a) : zor a 0 = a := by
  unfold zor
  have e : Int32.ofInt a ||| Int32.ofInt 0 = Int32.ofInt a := by
    rw [← i32_0]
    simp
  rw [e, z32 h]
/-- a bit of a number -/
def bit (a k : Nat) : Nat := a / 2 ^ k % 2
theorem zbit {a k : Nat} (ha : a < 2147483648) (hk : k < 32) : zand (zshr a k) 1 = ((bit a k : Nat) : Int) := by
  rw [zshr_n ha hk]
  have := zand_n (a := a / 2 ^ k) (b := 1) (by decide)
  rw [Nat.and_one_is_mod] at this
  exact this
/-- how many bits -/
def pcN : Nat → Nat → Nat
  | 0, _ => 0
  | n + 1, a => a % 2 + pcN n (a / 2)
theorem pcN_le : ∀ n a, pcN n a ≤ n
  | 0, _ => Nat.le_refl _
  | n + 1, a => by
    have := pcN_le n (a / 2)
    unfold pcN
    omega
theorem pcN_0 : ∀ n, pcN n 0 = 0
  | 0 => rfl
  | n + 1 => by
    unfold pcN
    rw [Nat.zero_mod, Nat.zero_div, pcN_0 n]
theorem div_pow_succ (a m : Nat) : a / 2 / 2 ^ m = a / 2 ^ (m + 1) := by
  rw [Nat.div_div_eq_div_mul, Nat.pow_succ, Nat.mul_comm]
theorem pcN_add : ∀ m n a, pcN (m + n) a = pcN m a + pcN n (a / 2 ^ m)
  | 0, n, a => by
    unfold pcN
    simp
  | m + 1, n, a => by
    rw [show m + 1 + n = (m + n) + 1 by omega]
    show a % 2 + pcN (m + n) (a / 2) = a % 2 + pcN m (a / 2) + pcN n (a / 2 ^ (m + 1))
    rw [pcN_add m n (a / 2), div_pow_succ, Nat.add_assoc]
def pcI (x : Int) : Int := (pcN 25 x.toNat : Nat)
theorem pcI_n (a : Nat) : pcI (a : Int) = (pcN 25 a : Nat) := rfl
theorem pcI_le (x : Int) : 0 ≤ pcI x ∧ pcI x ≤ 25 := by
  have := pcN_le 25 x.toNat
  unfold pcI
  omega
theorem pcN_pow : ∀ n k a, pcN (n + 1) (a / 2 ^ k) = bit a k + pcN n (a / 2 ^ (k + 1))
  | n, k, a => by
    show a / 2 ^ k % 2 + pcN n (a / 2 ^ k / 2) = a / 2 ^ k % 2 + pcN n (a / 2 ^ (k + 1))
    rw [Nat.div_div_eq_div_mul, Nat.pow_succ]
/-! the reference counts bits one by one -/
theorem lp_ones {d b : Nat} {Q : Option AV → AH → Prop} {h : AH} {a : Nat} (ha : a < 33554432) : ∀ (n : Nat) (k s : Nat), k + n = 25 → s ≤ k → Q (some (vI ((s + pcN n (a / 2 ^ k) : Nat) : Int))) h → Lp_X8_ones_4 d b Q a s k h
  | 0, k, s, hk, hs, q => by
    refine l_X8_ones_4 ⟨fun _ => ?_, fun c => absurd (by omega) c⟩
    unfold pcN at q
    exact q
  | n + 1, k, s, hk, hs, q => by
    have hb : bit a k ≤ 1 := by unfold bit; omega
    refine l_X8_ones_4 ⟨fun c => by omega, fun c => ?_⟩
    rw [zbit (by omega) (by omega)]
    refine ⟨by omega, by omega, ?_⟩
    have := lp_ones (d := d) (b := b) (Q := Q) (h := h) ha n (k + 1) (s + bit a k) (by omega) (by omega) (by rw [pcN_pow] at q; rwa [Nat.add_assoc])
    rwa [Int.natCast_add, Int.natCast_add] at this
theorem c_X8_ones {d b : Nat} {Q : Option AV → AH → Prop} {h : AH} {x : Int} (hx : 0 ≤ x ∧ x < 33554432) (k : Q (some (vI (pcI x))) h) : WM GM d b mX8_ones [vI x] h Q := by
  have e : x = (x.toNat : Int) := by omega
  rw [e] at k ⊢
  refine w_X8_ones (lp_ones (by omega) 25 0 0 (by omega) (by omega) ?_)
  rw [pcI_n] at k
  rw [Nat.pow_zero, Nat.div_one, Nat.zero_add]
  exact k
/-! the JDK counts them all at once -/
theorem and_b {a b d e : Nat} (hd : d < 256) (he : e < 256) : (256 * a + d) &&& (256 * b + e) = 256 * (a &&& b) + (d &&& e) := by
  have h1 := Nat.and_div_two_pow (a := 256 * a + d) (b := 256 * b + e) (n := 8)
  have h2 := Nat.and_mod_two_pow (a := 256 * a + d) (b := 256 * b + e) (n := 8)
  rw [show (2 : Nat) ^ 8 = 256 from rfl] at h1 h2
  rw [show (256 * a + d) / 256 = a by omega, show (256 * b + e) / 256 = b by omega] at h1
  rw [show (256 * a + d) % 256 = d by omega, show (256 * b + e) % 256 = e by omega] at h2
  omega
def sw1 (m a : Nat) : Nat := a - ((a / 2) &&& m)
def sw2 (m a : Nat) : Nat := (a &&& m) + ((a / 4) &&& m)
def sw3 (m a : Nat) : Nat := (a + a / 16) &&& m
theorem k85 : ∀ e, e < 2 → ∀ f, f < 128 → (128 * e + f) &&& 85 = f &&& 85 := by decide +kernel
theorem k51 : ∀ e, e < 4 → ∀ f, f < 64 → (64 * e + f) &&& 51 = f &&& 51 := by decide +kernel
theorem sw1_s {m a d : Nat} (hd : d < 256) : sw1 (256 * m + 85) (256 * a + d) = 256 * sw1 m a + sw1 85 d := by
  unfold sw1
  have e1 : (256 * a + d) / 2 = 256 * (a / 2) + (128 * (a % 2) + d / 2) := by omega
  have l1 : (a / 2) &&& m ≤ a / 2 := Nat.and_le_left
  have l2 : (d / 2) &&& 85 ≤ d / 2 := Nat.and_le_left
  rw [e1, and_b (by omega) (by decide), k85 _ (by omega) _ (by omega)]
  omega
theorem sw2_s {m a d : Nat} (hd : d < 256) : sw2 (256 * m + 51) (256 * a + d) = 256 * sw2 m a + sw2 51 d := by
  unfold sw2
  have e1 : (256 * a + d) / 4 = 256 * (a / 4) + (64 * (a % 4) + d / 4) := by omega
  rw [e1, and_b hd (by decide), and_b (by omega) (by decide), k51 _ (by omega) _ (by omega)]
  omega
theorem and15 (x : Nat) : x &&& 15 = x % 16 := Nat.and_two_pow_sub_one_eq_mod x 4
theorem sw3_s {m a d : Nat} (hd : d ≤ 102) (ha : a % 16 ≤ 6) : sw3 (256 * m + 15) (256 * a + d) = 256 * sw3 m a + sw3 15 d := by
  unfold sw3
  have e1 : 256 * a + d + (256 * a + d) / 16 = 256 * (a + a / 16) + (d + 16 * (a % 16) + d / 16) := by omega
  rw [e1, and_b (by omega) (by decide), and15, and15]
  omega
theorem sw_1 : ∀ d, d < 256 → sw1 85 d < 256 ∧ (sw2 51 (sw1 85 d) ≤ 102 ∧ sw2 51 (sw1 85 d) % 16 ≤ 6) ∧ sw3 15 (sw2 51 (sw1 85 d)) = pcN 8 d := by decide +kernel
theorem pcN_8 (a d : Nat) (hd : d < 256) : pcN 8 (256 * a + d) = pcN 8 d := by
  simp only [pcN]
  omega
theorem pcN_b (n a d : Nat) (hd : d < 256) : pcN (8 + n) (256 * a + d) = pcN 8 d + pcN n a := by
  rw [pcN_add, pcN_8 a d hd, show (2 : Nat) ^ 8 = 256 from rfl, show (256 * a + d) / 256 = a by omega]
theorem sw1_4 {b0 b1 b2 b3 : Nat} (h0 : b0 < 256) (h1 : b1 < 256) (h2 : b2 < 256) : sw1 1431655765 (256 * (256 * (256 * b3 + b2) + b1) + b0) = 256 * (256 * (256 * sw1 85 b3 + sw1 85 b2) + sw1 85 b1) + sw1 85 b0 := by
  have e1 := sw1_s (m := 5592405) (a := 256 * (256 * b3 + b2) + b1) h0
  have e2 := sw1_s (m := 21845) (a := 256 * b3 + b2) h1
  have e3 := sw1_s (m := 85) (a := b3) h2
  simp only [Nat.reduceMul, Nat.reduceAdd] at e1 e2 e3
  rw [e1, e2, e3]
theorem sw2_4 {b0 b1 b2 b3 : Nat} (h0 : b0 < 256) (h1 : b1 < 256) (h2 : b2 < 256) : sw2 858993459 (256 * (256 * (256 * b3 + b2) + b1) + b0) = 256 * (256 * (256 * sw2 51 b3 + sw2 51 b2) + sw2 51 b1) + sw2 51 b0 := by
  have e1 := sw2_s (m := 3355443) (a := 256 * (256 * b3 + b2) + b1) h0
  have e2 := sw2_s (m := 13107) (a := 256 * b3 + b2) h1
  have e3 := sw2_s (m := 51) (a := b3) h2
  simp only [Nat.reduceMul, Nat.reduceAdd] at e1 e2 e3
  rw [e1, e2, e3]
theorem sw3_4 {b0 b1 b2 b3 : Nat} (h0 : b0 ≤ 102) (h1 : b1 ≤ 102) (h2 : b2 ≤ 102) (g1 : b1 % 16 ≤ 6) (g2 : b2 % 16 ≤ 6) (g3 : b3 % 16 ≤ 6) : sw3 252645135 (256 * (256 * (256 * b3 + b2) + b1) + b0) = 256 * (256 * (256 * sw3 15 b3 + sw3 15 b2) + sw3 15 b1) + sw3 15 b0 := by
  have e1 := sw3_s (m := 986895) (a := 256 * (256 * b3 + b2) + b1) h0 (by omega)
  have e2 := sw3_s (m := 3855) (a := 256 * b3 + b2) h1 (by omega)
  have e3 := sw3_s (m := 15) (a := b3) h2 g3
  simp only [Nat.reduceMul, Nat.reduceAdd] at e1 e2 e3
  rw [e1, e2, e3]
theorem sw_all {a : Nat} (ha : a < 4294967296) : ∃ c0 c1 c2 c3, c0 ≤ 8 ∧ c1 ≤ 8 ∧ c2 ≤ 8 ∧ c3 ≤ 8 ∧ sw3 252645135 (sw2 858993459 (sw1 1431655765 a)) = 256 * (256 * (256 * c3 + c2) + c1) + c0 ∧ pcN 32 a = c0 + (c1 + (c2 + c3)) := by
  obtain ⟨b0, b1, b2, b3, h0, h1, h2, h3, e⟩ : ∃ b0 b1 b2 b3, b0 < 256 ∧ b1 < 256 ∧ b2 < 256 ∧ b3 < 256 ∧ a = 256 * (256 * (256 * b3 + b2) + b1) + b0 := ⟨a % 256, a / 256 % 256, a / 65536 % 256, a / 16777216, by omega, by omega, by omega, by omega, by omega⟩
  subst e
  obtain ⟨p0, q0, r0⟩ := sw_1 b0 h0
  obtain ⟨p1, q1, r1⟩ := sw_1 b1 h1
  obtain ⟨p2, q2, r2⟩ := sw_1 b2 h2
  obtain ⟨p3, q3, r3⟩ := sw_1 b3 h3
  refine ⟨pcN 8 b0, pcN 8 b1, pcN 8 b2, pcN 8 b3, pcN_le 8 _, pcN_le 8 _, pcN_le 8 _, pcN_le 8 _, ?_, ?_⟩
  · rw [sw1_4 h0 h1 h2, sw2_4 p0 p1 p2, sw3_4 q0.1 q1.1 q2.1 q1.2 q2.2 q3.2, r0, r1, r2, r3]
  · rw [show 32 = 8 + (8 + (8 + 8)) from rfl, pcN_b _ _ _ h0, pcN_b _ _ _ h1, pcN_b _ _ _ h2]
theorem sw_end {c0 c1 c2 c3 : Nat} (h0 : c0 ≤ 8) (h1 : c1 ≤ 8) (h2 : c2 ≤ 8) (h3 : c3 ≤ 8) : ∀ i, i = 256 * (256 * (256 * c3 + c2) + c1) + c0 → (i + i / 256 + (i + i / 256) / 65536) % 64 = c0 + (c1 + (c2 + c3)) := by
  intro i e
  have e1 : i / 256 = 256 * (256 * c3 + c2) + c1 := by omega
  rw [e1]
  have e2 : (i + (256 * (256 * c3 + c2) + c1)) / 65536 = c2 + c3 + 256 * c3 := by
    have e3 : i + (256 * (256 * c3 + c2) + c1) = 65536 * (c2 + c3 + 256 * c3) + (c0 + c1 + 256 * (c1 + c2)) := by omega
    rw [e3]
    omega
  rw [e2]
  omega
theorem pcN_25 {a : Nat} (ha : a < 33554432) : pcN 32 a = pcN 25 a := by
  rw [show 32 = 25 + 7 from rfl, pcN_add, Nat.div_eq_of_lt (by omega), pcN_0, Nat.add_zero]
theorem c_J6_bitCount {G : GT} {d b : Nat} {Q : Option AV → AH → Prop} {h : AH} {x : Int} (hx : 0 ≤ x ∧ x < 33554432) (k : Q (some (vI (pcI x))) h) : WM G d b mJ6_bitCount_0f7a4 [vI x] h Q := by
  obtain ⟨a, e⟩ : ∃ a : Nat, x = a := ⟨x.toNat, by omega⟩
  subst e
  have ha : a < 33554432 := by omega
  obtain ⟨c0, c1, c2, c3, d0, d1, d2, d3, e1, e2⟩ := sw_all (a := a) (by omega)
  have e3 := sw_end d0 d1 d2 d3 _ e1
  rw [← e2, pcN_25 ha] at e3
  have L1 : (a / 2) &&& 1431655765 ≤ a / 2 := Nat.and_le_left
  have s1 : zand (zushr (a : Int) 1) 1431655765 = (((a / 2) &&& 1431655765 : Nat) : Int) := by
    have := zushr_n (a := a) (k := 1) (by omega) (by decide)
    rw [show ((1 : Nat) : Int) = 1 from rfl] at this
    rw [this]
    exact zand_n (b := 1431655765) (by decide)
  have t1 : (a : Int) - zand (zushr (a : Int) 1) 1431655765 = ((sw1 1431655765 a : Nat) : Int) := by
    rw [s1]
    unfold sw1
    omega
  have b1 : sw1 1431655765 a ≤ a := Nat.sub_le _ _
  generalize hA : sw1 1431655765 a = A at *
  have s2 : zand (A : Int) 858993459 = ((A &&& 858993459 : Nat) : Int) := zand_n (b := 858993459) (by decide)
  have s2' : zand (zushr (A : Int) 2) 858993459 = (((A / 4) &&& 858993459 : Nat) : Int) := by
    have := zushr_n (a := A) (k := 2) (by omega) (by decide)
    rw [show ((2 : Nat) : Int) = 2 from rfl] at this
    rw [this]
    exact zand_n (b := 858993459) (by decide)
  have t2 : zand (A : Int) 858993459 + zand (zushr (A : Int) 2) 858993459 = ((sw2 858993459 A : Nat) : Int) := by
    rw [s2, s2']
    rfl
  have b2 : sw2 858993459 A ≤ 2 * A := by
    unfold sw2
    have l1 : A &&& 858993459 ≤ A := Nat.and_le_left
    have l2 : (A / 4) &&& 858993459 ≤ A / 4 := Nat.and_le_left
    omega
  generalize hB : sw2 858993459 A = B at *
  have s3 : zushr (B : Int) 4 = ((B / 16 : Nat) : Int) := by
    have := zushr_n (a := B) (k := 4) (by omega) (by decide)
    exact this
  have t3 : zand ((B : Int) + zushr (B : Int) 4) 252645135 = ((sw3 252645135 B : Nat) : Int) := by
    rw [s3]
    exact zand_n (a := B + B / 16) (b := 252645135) (by decide)
  have b3 : sw3 252645135 B ≤ 252645135 := Nat.and_le_right
  generalize hC : sw3 252645135 B = C at *
  have s4 : zushr (C : Int) 8 = ((C / 256 : Nat) : Int) := zushr_n (a := C) (k := 8) (by omega) (by decide)
  have s5 : zushr ((C : Int) + ((C / 256 : Nat) : Int)) 16 = (((C + C / 256) / 65536 : Nat) : Int) := zushr_n (a := C + C / 256) (k := 16) (by omega) (by decide)
  have s6 : zand ((C : Int) + ((C / 256 : Nat) : Int) + (((C + C / 256) / 65536 : Nat) : Int)) 63 = ((pcN 25 a : Nat) : Int) := by
    have := zand_n (a := C + C / 256 + (C + C / 256) / 65536) (b := 63) (by decide)
    rw [show (63 : Nat) = 2 ^ 6 - 1 from rfl, Nat.and_two_pow_sub_one_eq_mod, show (2 : Nat) ^ 6 = 64 from rfl, e3] at this
    exact this
  refine w_J6_bitCount_0f7a4 ?_
  rw [t1, t2, t3, s3, s4, s5, s6]
  refine ⟨by omega, by omega, by omega, by omega, by omega, ?_⟩
  rw [pcI_n] at k
  exact k
