/-! search: the shortest way, on paper -/
def dst (a c : Int) : Int := zabs (a % 5 - c % 5) + zabs (a / 5 - c / 5)
theorem dst_R {a c : Int} (ha : 0 ≤ a ∧ a < 25) (hc : 0 ≤ c ∧ c < 25) : 0 ≤ dst a c ∧ dst a c ≤ 8 := by
  unfold dst zabs
  split <;> split <;> omega
def sdT (n : Nat) (T : Nat → Int) (last i : Nat) : Int := dst (if last = n then 0 else T last) (T i)
def gS (n : Nat) (T : Nat → Int) (B : Nat → Nat → Int) (last S i : Nat) : Int := if S.testBit i = true then sdT n T last i + B i (S - 2 ^ i) else 70
def mnf (g : Nat → Int) : Nat → Nat → Int → Int
  | 0, _, c => c
  | k + 1, i, c => mnf g k (i + 1) (min c (g i))
theorem mnf_s (g : Nat → Int) (k i : Nat) (c : Int) : mnf g (k + 1) i c = mnf g k (i + 1) (min c (g i)) := rfl
theorem mnf_congr {g g' : Nat → Int} : ∀ (k i : Nat) (c : Int), (∀ j, i ≤ j → j < i + k → g j = g' j) → mnf g k i c = mnf g' k i c
  | 0, _, _, _ => rfl
  | k + 1, i, c, h => by
    rw [mnf_s, mnf_s, h i (by omega) (by omega), mnf_congr k (i + 1) _ (fun j a b => h j (by omega) (by omega))]
theorem mnf_le {g : Nat → Int} : ∀ (k i : Nat) (c : Int), mnf g k i c ≤ c ∧ ∀ j, i ≤ j → j < i + k → mnf g k i c ≤ g j
  | 0, _, _ => ⟨Int.le_refl _, fun j a b => by omega⟩
  | k + 1, i, c => by
    obtain ⟨h1, h2⟩ := mnf_le (g := g) k (i + 1) (min c (g i))
    rw [mnf_s]
    refine ⟨by omega, fun j a b => ?_⟩
    by_cases e : j = i
    · rw [e]; omega
    · exact h2 j (by omega) (by omega)
theorem mnf_at {g : Nat → Int} : ∀ (k i : Nat) (c : Int), mnf g k i c = c ∨ ∃ j, i ≤ j ∧ j < i + k ∧ mnf g k i c = g j
  | 0, _, _ => Or.inl rfl
  | k + 1, i, c => by
    rw [mnf_s]
    rcases mnf_at (g := g) k (i + 1) (min c (g i)) with h | ⟨j, a, b, h⟩
    · by_cases e : c ≤ g i
      · exact Or.inl (by omega)
      · exact Or.inr ⟨i, by omega, by omega, by omega⟩
    · exact Or.inr ⟨j, by omega, by omega, h⟩
def wyF (n : Nat) (T : Nat → Int) : Nat → Nat → Nat → Int
  | 0, _, _ => 0
  | f + 1, last, S => if S = 0 then 0 else mnf (gS n T (wyF n T f) last S) n 0 70
theorem wyF_s (n : Nat) (T : Nat → Int) (f last S : Nat) : wyF n T (f + 1) last S = if S = 0 then 0 else mnf (gS n T (wyF n T f) last S) n 0 70 := rfl
theorem pc_del : ∀ i, i < 7 → ∀ S, S < 128 → S.testBit i = true → pcN 7 (S - 2 ^ i) + 1 = pcN 7 S ∧ S - 2 ^ i < S := by decide +kernel
theorem pc_zero : ∀ S, S < 128 → (pcN 7 S = 0 ↔ S = 0) := by decide +kernel
theorem tb_delb : ∀ i, i < 7 → ∀ S, S < 128 → ∀ j, j < 7 → S.testBit i = true → (S - 2 ^ i).testBit j = (S.testBit j && !(j == i)) := by decide +kernel
theorem tb_del {i S j : Nat} (hi : i < 7) (hS : S < 128) (hj : j < 7) (h : S.testBit i = true) : (S - 2 ^ i).testBit j = true ↔ (S.testBit j = true ∧ j ≠ i) := by
  rw [tb_delb i hi S hS j hj h, Bool.and_eq_true, Bool.not_eq_true', beq_eq_false_iff_ne]
theorem zdel : ∀ i : Nat, i < 7 → ∀ S : Nat, S < 128 → S.testBit i = true → zand (S : Int) (zxor (zshl 1 (i : Int)) (-1)) = ((S - 2 ^ i : Nat) : Int) := by decide +kernel
theorem tb_ex : ∀ S, S < 128 → S ≠ 0 → ∃ i, i < 7 ∧ S.testBit i = true := by decide +kernel
section WAY
variable {n : Nat} {T : Nat → Int}
theorem wyF_fuel (hn : n ≤ 7) : ∀ (f f' last S : Nat), S < 128 → pcN 7 S ≤ f → pcN 7 S ≤ f' → wyF n T f last S = wyF n T f' last S := by
  intro f
  induction f with
  | zero =>
    intro f' last S hS h1 h2
    have z := (pc_zero S hS).mp (by omega)
    match f' with
    | 0 => rfl
    | f' + 1 => rw [wyF_s, if_pos z]; rfl
  | succ f ih =>
    intro f' last S hS h1 h2
    by_cases z : S = 0
    · rw [wyF_s, if_pos z]
      match f' with
      | 0 => rfl
      | f' + 1 => rw [wyF_s, if_pos z]
    · have z' : ¬ pcN 7 S = 0 := fun w => z ((pc_zero S hS).mp w)
      match f', h2 with
      | 0, h2 => omega
      | f' + 1, h2 =>
        rw [wyF_s, wyF_s, if_neg z, if_neg z]
        refine mnf_congr _ _ _ (fun j a b => ?_)
        unfold gS
        by_cases t : S.testBit j = true
        · have d := pc_del j (by omega) S hS t
          rw [if_pos t, if_pos t, ih f' j (S - 2 ^ j) (by omega) (by omega) (by omega)]
        · rw [if_neg t, if_neg t]
def wy (n : Nat) (T : Nat → Int) (last S : Nat) : Int := wyF n T 7 last S
theorem wy_0 (last : Nat) : wy n T last 0 = 0 := rfl
theorem wy_s (hn : n ≤ 7) {S : Nat} (hS : S < 128) (z : S ≠ 0) (last : Nat) : wy n T last S = mnf (gS n T (wy n T) last S) n 0 70 := by
  unfold wy
  rw [wyF_s, if_neg z]
  refine mnf_congr _ _ _ (fun j a b => ?_)
  unfold gS
  by_cases t : S.testBit j = true
  · have d := pc_del j (by omega) S hS t
    have p := pcN_le 7 S
    rw [if_pos t, if_pos t, wyF_fuel hn 6 7 j (S - 2 ^ j) (by omega) (by omega) (by omega)]
  · rw [if_neg t, if_neg t]
theorem sdT_R (hT : ∀ i, i < n → 0 ≤ T i ∧ T i < 25) {last i : Nat} (hl : last ≤ n) (hi : i < n) : 0 ≤ sdT n T last i ∧ sdT n T last i ≤ 8 := by
  unfold sdT
  split
  · exact dst_R (by decide) (hT i hi)
  · exact dst_R (hT last (by omega)) (hT i hi)
theorem wy_R (hn : n ≤ 7) (hT : ∀ i, i < n → 0 ≤ T i ∧ T i < 25) : ∀ (p S last : Nat), S < 2 ^ n → pcN 7 S = p → last ≤ n → 0 ≤ wy n T last S ∧ wy n T last S ≤ 8 * p := by
  intro p
  have hp : 2 ^ n ≤ 2 ^ 7 := Nat.pow_le_pow_right (by decide) hn
  induction p with
  | zero =>
    intro S last hS hp' hl
    have z := (pc_zero S (by omega)).mp hp'
    rw [z, wy_0]
    exact ⟨Int.le_refl _, Int.le_refl _⟩
  | succ p ih =>
    intro S last hS hp' hl
    have z : S ≠ 0 := fun w => by rw [(pc_zero S (by omega)).mpr w] at hp'; omega
    have pl := pcN_le 7 S
    obtain ⟨i, i7, ti⟩ := tb_ex S (by omega) z
    have ilt : i < n := Nat.not_le.mp (fun q => by rw [tb_lt hS q] at ti; cases ti)
    rw [wy_s hn (by omega) z]
    have lo := mnf_le (g := gS n T (wy n T) last S) n 0 70
    have at_ := mnf_at (g := gS n T (wy n T) last S) n 0 70
    have gv : ∀ j, j < n → S.testBit j = true → 0 ≤ gS n T (wy n T) last S j ∧ gS n T (wy n T) last S j ≤ 8 * (p + 1) := fun j hj tj => by
      have d := pc_del j (by omega) S (by omega) tj
      have s := sdT_R hT hl hj
      have w := ih (S - 2 ^ j) j (by omega) (by omega) (by omega)
      unfold gS
      rw [if_pos tj]
      omega
    have g1 := gv i ilt ti
    have g2 := lo.2 i (by omega) (by omega)
    refine ⟨?_, by omega⟩
    rcases at_ with h | ⟨j, a, b, h⟩
    · omega
    · by_cases tj : S.testBit j = true
      · have := gv j (by omega) tj
        omega
      · have : gS n T (wy n T) last S j = 70 := by unfold gS; rw [if_neg tj]
        omega
theorem wy_56 (hn : n ≤ 7) (hT : ∀ i, i < n → 0 ≤ T i ∧ T i < 25) {S last : Nat} (hS : S < 2 ^ n) (hl : last ≤ n) : 0 ≤ wy n T last S ∧ wy n T last S ≤ 56 := by
  have := wy_R hn hT _ S last hS rfl hl
  have p := pcN_le 7 S
  omega
/-- the first next cell of a shortest way -/
def fstN (g : Nat → Int) (v : Int) : Nat → Nat → Nat
  | 0, i => i
  | k + 1, i => if g i = v then i else fstN g v k (i + 1)
theorem fstN_s (g : Nat → Int) (v : Int) (k i : Nat) : fstN g v (k + 1) i = if g i = v then i else fstN g v k (i + 1) := rfl
theorem fstN_is {g : Nat → Int} {v : Int} : ∀ (k i : Nat), (∃ j, i ≤ j ∧ j < i + k ∧ g j = v) → i ≤ fstN g v k i ∧ fstN g v k i < i + k ∧ g (fstN g v k i) = v ∧ ∀ j, i ≤ j → j < fstN g v k i → g j ≠ v
  | 0, i, h => by
    obtain ⟨j, a, b, _⟩ := h
    omega
  | k + 1, i, h => by
    rw [fstN_s]
    by_cases e : g i = v
    · rw [if_pos e]
      exact ⟨Nat.le_refl _, by omega, e, fun j a b => by omega⟩
    · rw [if_neg e]
      obtain ⟨j, a, b, c⟩ := h
      have hj : j ≠ i := fun q => e (by rw [← q]; exact c)
      obtain ⟨r1, r2, r3, r4⟩ := fstN_is (g := g) (v := v) k (i + 1) ⟨j, by omega, by omega, c⟩
      refine ⟨by omega, by omega, r3, fun j a b => ?_⟩
      by_cases q : j = i
      · rw [q]; exact e
      · exact r4 j (by omega) b
def nxS (n : Nat) (T : Nat → Int) (last S : Nat) : Nat := fstN (gS n T (wy n T) last S) (wy n T last S) n 0
theorem nxS_is (hn : n ≤ 7) (hT : ∀ i, i < n → 0 ≤ T i ∧ T i < 25) {S last : Nat} (hS : S < 2 ^ n) (hl : last ≤ n) (z : S ≠ 0) : nxS n T last S < n ∧ S.testBit (nxS n T last S) = true ∧ sdT n T last (nxS n T last S) + wy n T (nxS n T last S) (S - 2 ^ nxS n T last S) = wy n T last S ∧ ∀ j, j < nxS n T last S → gS n T (wy n T) last S j ≠ wy n T last S := by
  have hp : 2 ^ n ≤ 2 ^ 7 := Nat.pow_le_pow_right (by decide) hn
  have w := wy_56 hn hT hS hl
  have ws := wy_s (T := T) hn (by omega) z last
  have at_ := mnf_at (g := gS n T (wy n T) last S) n 0 70
  rw [← ws] at at_
  obtain ⟨j, a, b, h⟩ := at_.resolve_left (by omega)
  have f := fstN_is (g := gS n T (wy n T) last S) (v := wy n T last S) n 0 ⟨j, a, b, h.symm⟩
  have tb : S.testBit (nxS n T last S) = true := by
    cases q : S.testBit (nxS n T last S)
    · have := f.2.2.1
      rw [show fstN (gS n T (wy n T) last S) (wy n T last S) n 0 = nxS n T last S from rfl] at this
      unfold gS at this
      rw [if_neg (by rw [q]; decide)] at this
      omega
    · rfl
  refine ⟨by have := f.2.1; unfold nxS; omega, tb, ?_, fun j h => f.2.2.2 j (by omega) h⟩
  have := f.2.2.1
  rw [show fstN (gS n T (wy n T) last S) (wy n T last S) n 0 = nxS n T last S from rfl] at this
  unfold gS at this
  rwa [if_pos tb] at this
/-- the way, cell by cell -/
def rowS (n : Nat) (T : Nat → Int) : Nat → Nat → Nat → Int
  | 0, last, S => T (nxS n T last S)
  | q + 1, last, S => rowS n T q (nxS n T last S) (S - 2 ^ nxS n T last S)
theorem rowS_0 (last S : Nat) : rowS n T 0 last S = T (nxS n T last S) := rfl
theorem rowS_s (q last S : Nat) : rowS n T (q + 1) last S = rowS n T q (nxS n T last S) (S - 2 ^ nxS n T last S) := rfl
end WAY
/-! the told cells -/
def lstB (a : Nat) : Nat → Nat → List Int
  | 0, _ => []
  | k + 1, c => if a.testBit c = true then (c : Int) :: lstB a k (c + 1) else lstB a k (c + 1)
theorem lstB_s (a k c : Nat) : lstB a (k + 1) c = if a.testBit c = true then (c : Int) :: lstB a k (c + 1) else lstB a k (c + 1) := rfl
theorem lstB_R (a : Nat) : ∀ (k c : Nat), ∀ x ∈ lstB a k c, (c : Int) ≤ x ∧ x < c + k
  | 0, _, x, h => by cases h
  | k + 1, c, x, h => by
    have ih := lstB_R a k (c + 1)
    rw [lstB_s] at h
    split at h
    · rcases List.mem_cons.mp h with h | h
      · omega
      · have := ih x h
        omega
    · have := ih x h
      omega
theorem lstB_len (a : Nat) : ∀ (k c : Nat), (lstB a k c).length = pcN k (a / 2 ^ c)
  | 0, _ => rfl
  | k + 1, c => by
    have t : a.testBit c = true ↔ bit a c = 1 := by
      rw [Nat.testBit_eq_decide_div_mod_eq, decide_eq_true_eq]
      rfl
    have b1 : bit a c = 0 ∨ bit a c = 1 := by unfold bit; omega
    rw [lstB_s, pcN_pow, ← lstB_len a k (c + 1)]
    split
    · rename_i h
      rw [t.mp h, List.length_cons]
      omega
    · rename_i h
      have : bit a c = 0 := b1.resolve_right (fun q => h (t.mpr q))
      omega
def tld (a : Nat) (i : Nat) : Int := (lstB a 25 0).getD i 0
theorem tld_len (a : Nat) : (lstB a 25 0).length = pcN 25 a := by
  rw [lstB_len, Nat.pow_zero, Nat.div_one]
theorem tld_R {a i : Nat} (h : i < pcN 25 a) : 0 ≤ tld a i ∧ tld a i < 25 := by
  have hl : i < (lstB a 25 0).length := by rw [tld_len]; exact h
  have e : tld a i = (lstB a 25 0)[i] := by
    unfold tld
    rw [List.getD_eq_getElem?_getD, List.getElem?_eq_getElem hl]
    rfl
  have := lstB_R a 25 0 _ (List.getElem_mem hl)
  rw [e]
  omega
/-- what is told so far: m cells; the next bit is c -/
def TldI (a : Nat) (f : Int → Int) (m c : Nat) : Prop := m + (lstB a (25 - c) c).length = pcN 25 a ∧ (∀ i : Nat, i < m → f i = tld a i) ∧ ∀ i : Nat, (lstB a (25 - c) c).getD i 0 = tld a (m + i)
theorem TldI.put {a : Nat} {f f' : Int → Int} {m c : Nat} (H : TldI a f m c) (hc : c < 25) (ht : a.testBit c = true) (h1 : f' m = c) (h2 : ∀ i : Nat, i < m → f' i = f i) : TldI a f' (m + 1) (c + 1) := by
  obtain ⟨a1, a2, a3⟩ := H
  have e : lstB a (25 - c) c = (c : Int) :: lstB a (25 - (c + 1)) (c + 1) := by
    rw [show 25 - c = (25 - (c + 1)) + 1 by omega, lstB_s, if_pos ht]
  rw [e] at a1 a3
  rw [List.length_cons] at a1
  refine ⟨by omega, fun i hi => ?_, fun i => ?_⟩
  · by_cases q : i = m
    · have := a3 0
      rw [q, h1]
      exact this
    · rw [h2 i (by omega)]
      exact a2 i (by omega)
  · have := a3 (i + 1)
    rw [show m + 1 + i = m + (i + 1) by omega]
    rw [← this]
    rfl
theorem TldI.pass {a : Nat} {f : Int → Int} {m c : Nat} (H : TldI a f m c) (hc : c < 25) (ht : ¬ a.testBit c = true) : TldI a f m (c + 1) := by
  obtain ⟨a1, a2, a3⟩ := H
  have e : lstB a (25 - c) c = lstB a (25 - (c + 1)) (c + 1) := by
    rw [show 25 - c = (25 - (c + 1)) + 1 by omega, lstB_s, if_neg ht]
  rw [e] at a1 a3
  exact ⟨a1, a2, a3⟩
theorem TldI.init (a : Nat) (f : Int → Int) : TldI a f 0 0 := ⟨by rw [Nat.zero_add, show 25 - 0 = 25 from rfl, tld_len], fun i hi => by omega, fun i => by rw [Nat.zero_add]; rfl⟩
theorem TldI.lt {a : Nat} {f : Int → Int} {m c : Nat} (H : TldI a f m c) (hc : c < 25) (ht : a.testBit c = true) : m < pcN 25 a := by
  have a1 := H.1
  rw [show 25 - c = (25 - (c + 1)) + 1 by omega, lstB_s, if_pos ht, List.length_cons] at a1
  omega
theorem TldI.le {a : Nat} {f : Int → Int} {m c : Nat} (H : TldI a f m c) : m ≤ pcN 25 a := by
  have a1 := H.1
  omega
