/-! contracts of small methods -/
theorem qb_t {Q : Option AV → AH → Prop} {h : AH} {p : Prop} [Decidable p] (k : Q (some (vI (b2i p))) h) (hp : p) : Q (some (vI 1)) h := by rwa [b2i_t hp] at k
theorem qb_f {Q : Option AV → AH → Prop} {h : AH} {p : Prop} [Decidable p] (k : Q (some (vI (b2i p))) h) (hp : ¬ p) : Q (some (vI 0)) h := by rwa [b2i_f hp] at k
theorem qi {Q : Option AV → AH → Prop} {h : AH} {x z : Int} (k : Q (some (vI x)) h) (e : x = z) : Q (some (vI z)) h := e ▸ k
theorem ql {Q : Option AV → AH → Prop} {h : AH} {x z : Int} (k : Q (some (vL x)) h) (e : x = z) : Q (some (vL z)) h := e ▸ k
theorem qh {Q : Option AV → AH → Prop} {h h' : AH} {v : Option AV} (k : Q v h) (e : h = h') : Q v h' := e ▸ k

theorem c_X7_isCell {d b : Nat} {Q : Option AV → AH → Prop} {h : AH} {x : Int}  (k : Q (some (vI (b2i (0 ≤ x ∧ x < 25)))) h) : WM GX d b mX7_isCell [vI x] h Q := by
  refine w_X7_isCell  ?_
  repeat' (first | refine And.intro ?_ ?_ | (intro (hh : AH) c; subst c) | intro c)
  all_goals (first | omega | exact qb_t k (by omega) | exact qb_f k (by omega))

theorem c_X7_isKnocks {d b : Nat} {Q : Option AV → AH → Prop} {h : AH} {x : Int}  (k : Q (some (vI (b2i (0 ≤ x ∧ x < 64)))) h) : WM GX d b mX7_isKnocks [vI x] h Q := by
  refine w_X7_isKnocks  ?_
  repeat' (first | refine And.intro ?_ ?_ | (intro (hh : AH) c; subst c) | intro c)
  all_goals (first | omega | exact qb_t k (by omega) | exact qb_f k (by omega))

theorem c_X3_isLetter {d b : Nat} {Q : Option AV → AH → Prop} {h : AH} {x : Int}  (k : Q (some (vI (b2i (97 ≤ x ∧ x ≤ 122)))) h) : WM GX d b mX3_isLetter [vI x] h Q := by
  refine w_X3_isLetter  ?_
  repeat' (first | refine And.intro ?_ ?_ | (intro (hh : AH) c; subst c) | intro c)
  all_goals (first | omega | exact qb_t k (by omega) | exact qb_f k (by omega))

theorem c_X3_isDigit {d b : Nat} {Q : Option AV → AH → Prop} {h : AH} {x : Int}  (k : Q (some (vI (b2i (48 ≤ x ∧ x ≤ 57)))) h) : WM GX d b mX3_isDigit [vI x] h Q := by
  refine w_X3_isDigit  ?_
  repeat' (first | refine And.intro ?_ ?_ | (intro (hh : AH) c; subst c) | intro c)
  all_goals (first | omega | exact qb_t k (by omega) | exact qb_f k (by omega))

theorem c_X0_isHouse {d b : Nat} {Q : Option AV → AH → Prop} {h : AH} {o : Nat} {x : Int} (ho : isl o)  (k : Q (some (vI (b2i (0 ≤ x ∧ x < gi h o 0)))) h) : WM GX d b mX0_isHouse [vR (some o), vI x] h Q := by
  refine w_X0_isHouse ho ?_
  repeat' (first | refine And.intro ?_ ?_ | (intro (hh : AH) c; subst c) | intro c)
  all_goals (first | omega | exact qb_t k (by omega) | exact qb_f k (by omega))

theorem c_X0_isDoor {d b : Nat} {Q : Option AV → AH → Prop} {h : AH} {o : Nat} {x : Int} (ho : isl o)  (k : Q (some (vI (b2i (0 ≤ x ∧ x < gi h o 2)))) h) : WM GX d b mX0_isDoor [vR (some o), vI x] h Q := by
  refine w_X0_isDoor ho ?_
  repeat' (first | refine And.intro ?_ ?_ | (intro (hh : AH) c; subst c) | intro c)
  all_goals (first | omega | exact qb_t k (by omega) | exact qb_f k (by omega))

theorem c_X0_isLost {d b : Nat} {Q : Option AV → AH → Prop} {h : AH} {o : Nat} {x : Int} (ho : isl o)  (hx : 0 ≤ x ∧ x < 8) (k : Q (some (vI (b2i (gi h (o + 6) x = -1 ∧ gi h (o + 7) x = -1)))) h) : WM GX d b mX0_isLost [vR (some o), vI x] h Q := by
  refine w_X0_isLost ho ?_
  repeat' (first | refine And.intro ?_ ?_ | (intro (hh : AH) c; subst c) | intro c)
  all_goals (first | omega | exact qb_t k (by omega) | exact qb_f k (by omega))

theorem c_X8_in {d b : Nat} {Q : Option AV → AH → Prop} {h : AH} {x y z : Int}  (k : Q (some (vI (b2i (y ≤ x ∧ x ≤ z)))) h) : WM GM d b mX8_in [vL x, vL y, vL z] h Q := by
  refine w_X8_in  ?_
  repeat' (first | refine And.intro ?_ ?_ | (intro (hh : AH) c; subst c) | intro c)
  all_goals (first | omega | exact qb_t k (by omega) | exact qb_f k (by omega))

theorem c_X8_isSmall {d b : Nat} {Q : Option AV → AH → Prop} {h : AH} {x : Int}  (k : Q (some (vI (b2i (97 ≤ x ∧ x ≤ 122)))) h) : WM GM d b mX8_isSmall [vI x] h Q := by
  refine w_X8_isSmall  ?_
  repeat' (first | refine And.intro ?_ ?_ | (intro (hh : AH) c; subst c) | intro c)
  all_goals (first | omega | exact qb_t k (by omega) | exact qb_f k (by omega))

theorem c_X8_isDigit {d b : Nat} {Q : Option AV → AH → Prop} {h : AH} {x : Int}  (k : Q (some (vI (b2i (48 ≤ x ∧ x ≤ 57)))) h) : WM GM d b mX8_isDigit [vI x] h Q := by
  refine w_X8_isDigit  ?_
  repeat' (first | refine And.intro ?_ ?_ | (intro (hh : AH) c; subst c) | intro c)
  all_goals (first | omega | exact qb_t k (by omega) | exact qb_f k (by omega))

theorem c_X8_is {d b : Nat} {Q : Option AV → AH → Prop} {h : AH} {x y : Int}  (k : Q (some (vI (b2i (zand (zshr x y) 1 = 1)))) h) : WM GM d b mX8_is [vI x, vI y] h Q := by
  refine w_X8_is  ?_
  repeat' (first | refine And.intro ?_ ?_ | (intro (hh : AH) c; subst c) | intro c)
  all_goals (first | omega | exact qb_t k (by omega) | exact qb_f k (by omega))

theorem c_X8_isAtSea {d b : Nat} {Q : Option AV → AH → Prop} {h : AH} {x : Int}  (hx : 0 ≤ x ∧ x < 8) (k : Q (some (vI (b2i (gi h 2 (15 + x) ≠ -1)))) h) : WM GM d b mX8_isAtSea [vR (some 0), vI x] h Q := by
  refine w_X8_isAtSea  ?_
  repeat' (first | refine And.intro ?_ ?_ | (intro (hh : AH) c; subst c) | intro c)
  all_goals (first | omega | exact qb_t k (by omega) | exact qb_f k (by omega))

def xRef (h : AH) (v : Int) : AH :=
  let h1 := si h 0 14 v
  if v = -1 then si h1 14 0 (gi h 14 0 + 1) else if v = -2 then si h1 14 1 (gi h 14 1 + 1) else if v = -3 then si h1 14 2 (gi h 14 2 + 1) else if v = -5 then si h1 14 3 (gi h 14 3 + 1) else if v = -6 then si h1 14 4 (gi h 14 4 + 1) else h1
theorem c_X7_granted {d b : Nat} {Q : Option AV → AH → Prop} {h : AH} {x : Int} (k : Q (some (vI x)) (si h 0 14 0)) : WM GX d b mX7_granted [vR (some 0), vI x] h Q := by
  refine w_X7_granted ?_
  intro h1 e1
  subst e1
  exact k
theorem c_X7_refuse {d b : Nat} {Q : Option AV → AH → Prop} {h : AH} {x : Int} (hb : ∀ i : Int, 0 ≤ i → i < 5 → 0 ≤ gi h 14 i ∧ gi h 14 i ≤ 1000000) (k : Q (some (vI x)) (xRef h x)) : WM GX d b mX7_refuse [vR (some 0), vI x] h Q := by
  have b0 := hb 0 (by omega) (by omega)
  have b1 := hb 1 (by omega) (by omega)
  have b2 := hb 2 (by omega) (by omega)
  have b3 := hb 3 (by omega) (by omega)
  have b4 := hb 4 (by omega) (by omega)
  refine w_X7_refuse ?_
  unfold xRef at k
  dsimp only at k
  intro h1 e1
  subst e1
  refine ⟨fun c => ⟨by omega, fun h2 e2 => ?_⟩, fun c1 => ⟨fun c => ⟨by omega, fun h2 e2 => ?_⟩, fun c2 => ⟨fun c => ⟨by omega, fun h2 e2 => ?_⟩, fun c3 => ⟨fun c => ⟨by omega, fun h2 e2 => ?_⟩, fun c4 => ⟨fun c => ⟨by omega, fun h2 e2 => ?_⟩, fun c5 => ?_⟩⟩⟩⟩⟩
  · rw [if_pos c] at k; subst e2; exact k
  · rw [if_neg c1, if_pos c] at k; subst e2; exact k
  · rw [if_neg c1, if_neg c2, if_pos c] at k; subst e2; exact k
  · rw [if_neg c1, if_neg c2, if_neg c3, if_pos c] at k; subst e2; exact k
  · rw [if_neg c1, if_neg c2, if_neg c3, if_neg c4, if_pos c] at k; subst e2; exact k
  · rw [if_neg c1, if_neg c2, if_neg c3, if_neg c4, if_neg c5] at k; exact k
/-- the first of n places from i on that holds x; -1: none -/
def dIn (f : Int → Int) (x : Int) : Nat → Int → Int
  | 0, _ => -1
  | n + 1, i => if f i = x then i else dIn f x n (i + 1)
theorem dIn_congr {f g : Int → Int} {x : Int} : ∀ (n : Nat) (i : Int), (∀ j, i ≤ j → j < i + n → f j = g j) → dIn f x n i = dIn g x n i
  | 0, _, _ => rfl
  | n + 1, i, h => by
    unfold dIn
    rw [h i (by omega) (by omega), dIn_congr n (i + 1) (fun j h1 h2 => h j (by omega) (by omega))]
theorem dIn_spec (f : Int → Int) (x : Int) : ∀ (n : Nat) (i : Int), (dIn f x n i = -1 ∧ ∀ j, i ≤ j → j < i + n → f j ≠ x) ∨ (i ≤ dIn f x n i ∧ dIn f x n i < i + n ∧ f (dIn f x n i) = x)
  | 0, i => Or.inl ⟨rfl, fun j h1 h2 => by omega⟩
  | n + 1, i => by
    unfold dIn
    split
    · rename_i e
      exact Or.inr ⟨by omega, by omega, e⟩
    · rename_i e
      rcases dIn_spec f x n (i + 1) with ⟨h1, h2⟩ | ⟨h1, h2, h3⟩
      · refine Or.inl ⟨h1, fun j h3 h4 => ?_⟩
        by_cases hj : j = i
        · rw [hj]; exact e
        · exact h2 j (by omega) (by omega)
      · exact Or.inr ⟨by omega, by omega, h3⟩
/-- the last of n places from i on that holds x, else its -/
def dLast (f : Int → Int) (x : Int) : Nat → Int → Int → Int
  | 0, _, its => its
  | n + 1, i, its => dLast f x n (i + 1) (if f i = x then i else its)
theorem dLast_none {f : Int → Int} {x : Int} : ∀ (n : Nat) (i its : Int), (∀ j, i ≤ j → j < i + n → f j ≠ x) → dLast f x n i its = its
  | 0, _, _, _ => rfl
  | n + 1, i, its, h => by
    unfold dLast
    rw [if_neg (h i (by omega) (by omega)), dLast_none n (i + 1) its (fun j h1 h2 => h j (by omega) (by omega))]
/-- the door of a house, as the row has it; -1: none -/
def dOf (r : Int → Int) (x : Int) : Int := dIn (fun i => r (7 + i)) x (r 1).toNat 0
theorem dLast_eq {f : Int → Int} {x : Int} : ∀ (n : Nat) (i : Int), (∀ j k, i ≤ j → j < k → k < i + n → f j = x → f k ≠ x) → dLast f x n i (-1) = dIn f x n i
  | 0, _, _ => rfl
  | n + 1, i, h => by
    unfold dLast dIn
    by_cases e : f i = x
    · rw [if_pos e, if_pos e, dLast_none n (i + 1) i (fun j h1 h2 => h i j (by omega) (by omega) (by omega) e)]
    · rw [if_neg e, if_neg e, dLast_eq n (i + 1) (fun j k h1 h2 h3 => h j k (by omega) h2 (by omega))]
theorem dOf_spec {r : Int → Int} {x : Int} (h0 : 0 ≤ r 1) : (dOf r x = -1 ∧ ∀ d, 0 ≤ d → d < r 1 → r (7 + d) ≠ x) ∨ (0 ≤ dOf r x ∧ dOf r x < r 1 ∧ r (7 + dOf r x) = x) := by
  have e : (((r 1).toNat : Nat) : Int) = r 1 := by omega
  unfold dOf
  rcases dIn_spec (fun i => r (7 + i)) x (r 1).toNat 0 with ⟨h1, h2⟩ | ⟨h1, h2, h3⟩
  · exact Or.inl ⟨h1, fun d h3 h4 => h2 d h3 (by omega)⟩
  · exact Or.inr ⟨h1, by omega, h3⟩
theorem lp_doorIn {d b : Nat} {Q : Option AV → AH → Prop} {h : AH} {o : Nat} {x : Int} (ho : isl o) (h8 : gi h o 2 ≤ 8) : ∀ (n : Nat) (i : Int), 0 ≤ i → i + n = gi h o 2 → Q (some (vI (dIn (gi h (o + 6)) x n i))) h → Lp_X0_doorIn_2 d b Q o x i h
  | 0, i, h0, e, k => l_X0_doorIn_2 ho ⟨fun _ => k, fun c => absurd (by omega) c⟩
  | n + 1, i, h0, e, k => by
    refine l_X0_doorIn_2 ho ⟨fun c => by omega, fun c => ⟨by omega, fun c1 => ?_, fun c1 => ⟨by omega, ?_⟩⟩⟩
    · unfold dIn at k
      rwa [if_pos c1] at k
    · unfold dIn at k
      rw [if_neg c1] at k
      exact lp_doorIn ho h8 n (i + 1) (by omega) (by omega) k
theorem c_X0_doorIn {d b : Nat} {Q : Option AV → AH → Prop} {h : AH} {o : Nat} {x : Int} (ho : isl o) (h8 : 0 ≤ gi h o 2 ∧ gi h o 2 ≤ 8) (k : Q (some (vI (dIn (gi h (o + 6)) x (gi h o 2).toNat 0))) h) : WM GX d b mX0_doorIn [vR (some o), vI x] h Q :=
  w_X0_doorIn ho (lp_doorIn ho h8.2 _ 0 (by omega) (by omega) k)
theorem lp_doorOf {d b : Nat} {Q : Option AV → AH → Prop} {h : AH} {x : Int} (h8 : gi h 2 1 ≤ 8) : ∀ (n : Nat) (i its : Int), 0 ≤ i → i + n = gi h 2 1 → Q (some (vI (dLast (fun j => gi h 2 (7 + j)) x n i its))) h → Lp_X8_doorOf_4 d b Q x its i h
  | 0, i, its, h0, e, k => l_X8_doorOf_4 ⟨fun _ => k, fun c => absurd (by omega) c⟩
  | n + 1, i, its, h0, e, k => by
    unfold dLast at k
    refine l_X8_doorOf_4 ⟨fun c => by omega, fun c => ⟨by omega, by omega, fun c1 => ⟨by omega, ?_⟩, fun c1 => ⟨by omega, ?_⟩⟩⟩
    · rw [if_pos c1] at k
      exact lp_doorOf h8 n (i + 1) i (by omega) (by omega) k
    · rw [if_neg c1] at k
      exact lp_doorOf h8 n (i + 1) its (by omega) (by omega) k
theorem c_X8_doorOf {d b : Nat} {Q : Option AV → AH → Prop} {h : AH} {x : Int} (hI : InvR (gi h 2)) (hx : 0 ≤ x) (k : Q (some (vI (dOf (gi h 2) x))) h) : WM GM d b mX8_doorOf [vR (some 0), vI x] h Q := by
  have h1 := hI.1
  have e1 : (((gi h 2 1).toNat : Nat) : Int) = gi h 2 1 := by omega
  refine w_X8_doorOf (lp_doorOf (by omega) (gi h 2 1).toNat 0 (-1) (by omega) (by omega) ?_)
  rw [dLast_eq]
  · exact k
  · intro j i h2 h3 h4 h5 h6
    try dsimp only at h5 h6
    have := hI.2.2.1 j i (by omega) h3 (by omega) (h5.trans h6.symm)
    omega
/-- the cell beside a cell, as drift tells; -1: over the edge -/
def zbes (c by_ : Int) : Int := if by_ = 1 then (if c < 5 then -1 else c - 5) else if by_ = 2 then (if c % 5 = 4 then -1 else c + 1) else if by_ = 3 then (if 19 < c then -1 else c + 5) else if by_ = 4 then (if c % 5 = 0 then -1 else c - 1) else c
theorem zbes_R {c x : Int} (hc : 0 ≤ c ∧ c < 25) : -1 ≤ zbes c x ∧ zbes c x < 25 := by
  unfold zbes
  repeat' split
  all_goals omega
theorem tmod_e {x : Int} {n : Int} (h : 0 ≤ x) : Int.tmod x n = x % n := Int.tmod_eq_emod_of_nonneg h
theorem tdiv_e {x : Int} {n : Int} (h : 0 ≤ x) : Int.tdiv x n = x / n := Int.tdiv_eq_ediv_of_nonneg h
theorem c_X0_beside {d b : Nat} {Q : Option AV → AH → Prop} {h : AH} {c x : Int} (hc : 0 ≤ c ∧ c < 25) (k : Q (some (vI (zbes c x))) h) : WM GX d b mX0_beside [vI c, vI x] h Q := by
  refine w_X0_beside ?_
  rw [tmod_e hc.1, tdiv_e hc.1]
  unfold zbes at k
  repeat' (first | refine And.intro ?_ ?_ | (intro (hh : AH) c; subst c) | intro c)
  all_goals first
    | omega
    | (refine qi k ?_; repeat' split
       all_goals omega)
theorem c_X8_cellBy {d b : Nat} {Q : Option AV → AH → Prop} {h : AH} {c x : Int} (hc : 0 ≤ c ∧ c < 25) (k : Q (some (vI (zbes c x))) h) : WM GM d b mX8_cellBy [vI c, vI x] h Q := by
  refine w_X8_cellBy ?_
  rw [tmod_e hc.1]
  unfold zbes at k
  repeat' (first | refine And.intro ?_ ?_ | (intro (hh : AH) c; subst c) | intro c)
  all_goals first
    | omega
    | (refine qi k ?_; repeat' split
       all_goals omega)
theorem zl2i_e {x : Int} (h : R32 x) : zl2i x = x := by
  unfold zl2i
  have e : (Int64.ofInt x).toInt32 = Int32.ofInt x := by
    rw [← Int32.ofInt_int64ToInt, z64 (by omega)]
  rw [e, z32 h]
/-- v, but not below lo and not above hi -/
def zwit (v lo hi : Int) : Int := if v < lo then lo else if hi < v then hi else v
theorem c_X8_within {d b : Nat} {Q : Option AV → AH → Prop} {h : AH} {v lo hi : Int} (hR : R32 lo ∧ R32 hi) (k : Q (some (vI (zwit v lo hi))) h) : WM GM d b mX8_within [vL v, vI lo, vI hi] h Q := by
  refine w_X8_within ?_
  unfold zwit at k
  refine ⟨fun c => ⟨fun c1 => ?_, fun c1 => ?_⟩, fun c => ?_⟩
  · rw [zl2i_e (by omega)]
    rwa [if_neg (by omega), if_neg (by omega)] at k
  · rwa [if_neg (by omega), if_pos (by omega)] at k
  · rwa [if_pos (by omega)] at k
def mTell (h : AH) (v : Int) : AH := if v < 0 then si (si h 0 1 v) 1 (-v) (gi h 1 (-v) + 1) else si h 0 1 0
theorem c_X8_tell {d b : Nat} {Q : Option AV → AH → Prop} {h : AH} {v : Int} (hv : -7 < v) (hb : ∀ i : Int, 0 ≤ i → i < 7 → 0 ≤ gi h 1 i ∧ gi h 1 i ≤ 1000000) (k : Q (some (vI v)) (mTell h v)) : WM GM d b mX8_tell [vR (some 0), vI v] h Q := by
  refine w_X8_tell ?_
  unfold mTell at k
  refine ⟨fun c h1 e1 => ⟨fun c1 => ?_, fun c1 => by omega⟩, fun c h1 e1 => ⟨fun c1 => by omega, fun c1 => ?_⟩⟩
  · rw [if_neg (by omega)] at k
    subst e1
    exact k
  · rw [if_pos (by omega)] at k
    have := hb (-v) (by omega) (by omega)
    refine ⟨by omega, by omega, by omega, by omega, fun h2 e2 => ?_⟩
    subst e2
    subst e1
    exact k
theorem c_X8_change {d b : Nat} {Q : Option AV → AH → Prop} {h : AH} {a v : Int} (ha : 0 ≤ a ∧ a < 5540) (k : Q (some (vI (gi h 2 a))) (si (si h 2 a v) 0 1 0)) : WM GM d b mX8_change [vR (some 0), vI a, vI v] h Q := by
  refine w_X8_change ⟨ha, ha, fun h1 e1 h2 e2 => ?_⟩
  subst e2
  subst e1
  exact k
theorem c_X8_lose {d b : Nat} {Q : Option AV → AH → Prop} {h : AH} {x : Int} (hx : 0 ≤ x ∧ x < 8) (k : Q none (si (si h 2 (15 + x) (-1)) 2 (31 + x) 1)) : WM GM d b mX8_lose [vR (some 0), vI x] h Q := by
  refine w_X8_lose ⟨by omega, by omega, fun h1 e1 => ⟨by omega, by omega, fun h2 e2 => ?_⟩⟩
  subst e2
  subst e1
  exact k
theorem c_X8_emit {d b : Nat} {Q : Option AV → AH → Prop} {h : AH} {x z : Int} (hx : 0 ≤ gi h 0 23 ∧ gi h 0 23 < 400) (k : Q none (si (si (si h 11 (gi h 0 23) x) 12 (gi h 0 23) z) 0 23 (gi h 0 23 + 1))) : WM GM d b mX8_emit [vR (some 0), vI x, vI z] h Q := by
  refine w_X8_emit ⟨hx, fun h1 e1 => ⟨hx, fun h2 e2 => ⟨by omega, fun h3 e3 => ?_⟩⟩⟩
  subst e3
  subst e2
  subst e1
  exact k
theorem c_X8_push {d b : Nat} {Q : Option AV → AH → Prop} {h : AH} {x z : Int} (hx : 0 ≤ gi h 0 29 ∧ gi h 0 29 < 400) (k : Q none (si (si (si h 13 (gi h 0 29) x) 14 (gi h 0 29) z) 0 29 (gi h 0 29 + 1))) : WM GM d b mX8_push [vR (some 0), vI x, vI z] h Q := by
  refine w_X8_push ⟨hx, fun h1 e1 => ⟨hx, fun h2 e2 => ⟨by omega, fun h3 e3 => ?_⟩⟩⟩
  subst e3
  subst e2
  subst e1
  exact k
def zbin (x : Int) : Int := if x < 31 then (if x = 30 then 1 else if x = 29 then 2 else if x = 28 then 3 else if x < 25 then (if x < 22 then 5 else 6) else 4) else 0
theorem c_X8_binds {d b : Nat} {Q : Option AV → AH → Prop} {h : AH} {x : Int} (k : Q (some (vI (zbin x))) h) : WM GM d b mX8_binds [vI x] h Q := by
  refine w_X8_binds ?_
  unfold zbin at k
  repeat' (first | refine And.intro ?_ ?_ | (intro (hh : AH) c; subst c) | intro c)
  all_goals (refine qi k ?_; repeat' split
             all_goals omega)
