/-! drift, knocks, sets of bits -/
def drf (f : Int → Int) : Nat → Int → Int
  | 0, a => a
  | n + 1, a => if 0 ≤ a ∧ a < 25 then drf f n (zbes a (f a)) else a
theorem drf_none (f : Int → Int) : ∀ n, drf f n (-1) = -1
  | 0 => rfl
  | n + 1 => by unfold drf; rw [if_neg (by omega)]
theorem drf_R {f : Int → Int} : ∀ (n : Nat) (a : Int), -1 ≤ a → a < 25 → -1 ≤ drf f n a ∧ drf f n a < 25
  | 0, a, h1, h2 => ⟨h1, h2⟩
  | n + 1, a, h1, h2 => by
    unfold drf
    split
    · rename_i c
      have := zbes_R (x := f a) c
      exact drf_R n _ this.1 this.2
    · exact ⟨h1, h2⟩
theorem drf_congr {f g : Int → Int} (h : ∀ a, 0 ≤ a → a < 25 → f a = g a) : ∀ (n : Nat) (a : Int), drf f n a = drf g n a
  | 0, _ => rfl
  | n + 1, a => by
    unfold drf
    split
    · rename_i c
      rw [h a c.1 c.2, drf_congr h n]
    · rfl
theorem lp_driftsTo {d b : Nat} {Q : Option AV → AH → Prop} {h : AH} {o : Nat} {m : Int} (ho : isl o) (hm : m ≤ 1000) : ∀ (n : Nat) (t a : Int), 0 ≤ t → t + n = m → -1 ≤ a ∧ a < 25 → Q (some (vI (drf (gi h (o + 10)) n a))) h → Lp_X0_driftsTo_5 d b Q o m a t h
  | 0, t, a, h0, e, ha, k => l_X0_driftsTo_5 ho ⟨fun _ => k, fun c => absurd (by omega) c⟩
  | n + 1, t, a, h0, e, ha, k => by
    unfold drf at k
    refine l_X0_driftsTo_5 ho ⟨fun c => by omega, fun c => ⟨fun c1 => ⟨c1, c1, by omega, ?_⟩, fun c1 => ?_⟩⟩
    · rw [if_pos c1] at k
      exact lp_driftsTo ho hm n (t + 1) _ (by omega) (by omega) (zbes_R c1) k
    · rw [if_neg c1] at k
      exact k
theorem c_X0_driftsTo {d b : Nat} {Q : Option AV → AH → Prop} {h : AH} {o : Nat} {a m : Int} (ho : isl o) (ha : -1 ≤ a ∧ a < 25) (hm : 0 ≤ m ∧ m ≤ 1000) (k : Q (some (vI (drf (gi h (o + 10)) (Int.toNat m) a))) h) : WM GX (d + 1) b mX0_driftsTo [vR (some o), vI a, vI m] h Q :=
  w_X0_driftsTo ho (lp_driftsTo ho hm.2 m.toNat 0 a (by omega) (by omega) ha k)
theorem zxor_comm (x z : Int) : zxor x z = zxor z x := by
  unfold zxor
  rw [show Int32.ofInt x ^^^ Int32.ofInt z = Int32.ofInt z ^^^ Int32.ofInt x from Int32.toBitVec_inj.mp (by rw [Int32.toBitVec_xor, Int32.toBitVec_xor, BitVec.xor_comm])]
theorem zxor_64 {x z : Int} (hx : 0 ≤ x ∧ x < 64) (hz : 0 ≤ z ∧ z < 64) : 0 ≤ zxor x z ∧ zxor x z < 64 := by
  obtain ⟨a, rfl⟩ : ∃ a : Nat, x = a := ⟨x.toNat, by omega⟩
  obtain ⟨c, rfl⟩ : ∃ a : Nat, z = a := ⟨z.toNat, by omega⟩
  rw [zxor_n (by omega) (by omega)]
  have : a ^^^ c < 2 ^ 6 := Nat.xor_lt_two_pow (by omega) (by omega)
  omega
def lun (f : Int → Int) (t : Int) : Nat → Int → Int → Int
  | 0, _, l => l
  | n + 1, i, l => lun f t n (i + 1) (min l (pcI (zxor (f i) t)))
theorem lun_congr {f g : Int → Int} {t : Int} : ∀ (n : Nat) (i l : Int), (∀ j, i ≤ j → j < i + n → f j = g j) → lun f t n i l = lun g t n i l
  | 0, _, _, _ => rfl
  | n + 1, i, l, h => by
    unfold lun
    rw [h i (by omega) (by omega), lun_congr n (i + 1) _ (fun j h1 h2 => h j (by omega) (by omega))]
theorem lun_0 {f : Int → Int} {t : Int} : ∀ (n : Nat) (i l : Int), 0 ≤ l → 0 ≤ lun f t n i l
  | 0, _, _, h => h
  | n + 1, i, l, h => by
    unfold lun
    have := pcI_le (zxor (f i) t)
    exact lun_0 n _ _ (by omega)
theorem lp_leastUnlike {d b : Nat} {Q : Option AV → AH → Prop} {h : AH} {o : Nat} {t : Int} (ho : isl o) (h8 : gi h o 2 ≤ 8) (hk : ∀ i : Int, 0 ≤ i → i < gi h o 2 → 0 ≤ gi h (o + 5) i ∧ gi h (o + 5) i < 64) (ht : 0 ≤ t ∧ t < 64) : ∀ (n : Nat) (i l : Int), 0 ≤ i → i + n = gi h o 2 → Q (some (vI (lun (gi h (o + 5)) t n i l))) h → Lp_X0_leastUnlike_5 d b Q o t l i h
  | 0, i, l, h0, e, k => l_X0_leastUnlike_5 ho ⟨fun _ => k, fun c => absurd (by omega) c⟩
  | n + 1, i, l, h0, e, k => by
    have := zxor_64 (hk i h0 (by omega)) ht
    refine l_X0_leastUnlike_5 ho ⟨fun c => by omega, fun c => ⟨by omega, by omega, by omega, ?_⟩⟩
    exact lp_leastUnlike ho h8 hk ht n (i + 1) _ (by omega) (by omega) k
theorem c_X0_leastUnlike {d b : Nat} {Q : Option AV → AH → Prop} {h : AH} {o : Nat} {t : Int} (ho : isl o) (h8 : 0 ≤ gi h o 2 ∧ gi h o 2 ≤ 8) (hk : ∀ i : Int, 0 ≤ i → i < gi h o 2 → 0 ≤ gi h (o + 5) i ∧ gi h (o + 5) i < 64) (ht : 0 ≤ t ∧ t < 64) (k : Q (some (vI (lun (gi h (o + 5)) t (gi h o 2).toNat 0 6))) h) : WM GX (d + 1) b mX0_leastUnlike [vR (some o), vI t] h Q :=
  w_X0_leastUnlike ho (lp_leastUnlike ho h8.2 hk ht (gi h o 2).toNat 0 6 (by omega) (by omega) k)
/-- those of n places from i on that have a property, as bits -/
def accB (f : Int → Int) : Nat → Int → Int → Int
  | 0, _, s => s
  | n + 1, i, s => accB f n (i + 1) (if f i = 1 then zor s (zshl 1 i) else s)
theorem accB_congr {f g : Int → Int} : ∀ (n : Nat) (i s : Int), (∀ j, i ≤ j → j < i + n → f j = g j) → accB f n i s = accB g n i s
  | 0, _, _, _ => rfl
  | n + 1, i, s, h => by
    unfold accB
    rw [h i (by omega) (by omega), accB_congr n (i + 1) _ (fun j h1 h2 => h j (by omega) (by omega))]
theorem zshl_1 {n : Nat} (h : n < 31) : zshl 1 n = ((2 ^ n : Nat) : Int) := by
  have h2 : (2 : Nat) ^ n ≤ 2 ^ 30 := Nat.pow_le_pow_right (by decide) (by omega)
  have := zshl_n (a := 1) (k := n) (by omega) (by omega)
  rwa [Nat.one_mul] at this
theorem accB_lt {f : Int → Int} : ∀ (n i : Nat) (s : Int), i + n < 31 → 0 ≤ s → s < ((2 ^ i : Nat) : Int) → 0 ≤ accB f n i s ∧ accB f n i s < ((2 ^ (i + n) : Nat) : Int)
  | 0, i, s, _, h1, h2 => ⟨h1, h2⟩
  | n + 1, i, s, h, h1, h2 => by
    unfold accB
    have h3 : (2 : Nat) ^ (i + 1) = 2 * 2 ^ i := by rw [Nat.pow_succ]; omega
    have h4 : (2 : Nat) ^ i ≤ 2 ^ 30 := Nat.pow_le_pow_right (by decide) (by omega)
    rw [show i + (n + 1) = i + 1 + n by omega]
    have := accB_lt (f := f) n (i + 1) (if f i = 1 then zor s (zshl 1 i) else s) (by omega) ?_ ?_
    · rwa [Int.natCast_succ] at this
    · split
      · obtain ⟨a, rfl⟩ : ∃ a : Nat, s = a := ⟨s.toNat, by omega⟩
        rw [zshl_1 (by omega), zor_n (by omega) (by omega)]
        omega
      · exact h1
    · split
      · obtain ⟨a, rfl⟩ : ∃ a : Nat, s = a := ⟨s.toNat, by omega⟩
        rw [zshl_1 (by omega), zor_n (by omega) (by omega)]
        have : a ||| 2 ^ i < 2 ^ (i + 1) := Nat.or_lt_two_pow (by omega) (by omega)
        omega
      · omega
theorem b1_t {α : Type} {p : Prop} [Decidable p] {a c : α} (hp : p) : (if b2i p = 1 then a else c) = a := by rw [b2i_t hp, if_pos rfl]
theorem b1_f {α : Type} {p : Prop} [Decidable p] {a c : α} (hp : ¬ p) : (if b2i p = 1 then a else c) = c := by rw [b2i_f hp, if_neg (by decide)]
theorem accB_s (f : Int → Int) (n : Nat) (i s : Int) : accB f (n + 1) i s = accB f n (i + 1) (if f i = 1 then zor s (zshl 1 i) else s) := rfl
theorem lun_s (f : Int → Int) (t : Int) (n : Nat) (i l : Int) : lun f t (n + 1) i l = lun f t n (i + 1) (min l (pcI (zxor (f i) t))) := rfl
theorem drf_s (f : Int → Int) (n : Nat) (a : Int) : drf f (n + 1) a = if 0 ≤ a ∧ a < 25 then drf f n (zbes a (f a)) else a := rfl
