/-! readers: the small methods -/
def advX (h : AH) : AH := if gi h 31 4 + 1 < gi h 31 3 then si (si h 31 4 (gi h 31 4 + 1)) 31 5 (gi h 32 (gi h 31 4 + 1)) else h
theorem c_X3_advance {d b : Nat} {Q : Option AV → AH → Prop} {h : AH} (hp : 0 ≤ gi h 31 4 ∧ gi h 31 4 ≤ 400 ∧ gi h 31 3 ≤ 401) (k : Q none (advX h)) : WM GX d b mX3_advance [vR (some 31)] h Q := by
  unfold advX at k
  refine w_X3_advance ⟨by omega, fun c => ⟨by omega, fun h1 e1 => ⟨by omega, fun h2 e2 => ?_⟩⟩, fun c => ?_⟩
  · rw [if_pos c] at k
    subst e2 e1
    exact k
  · rw [if_neg c] at k
    exact k
def nFrom (h : AH) (lo hi : Int) : Int := if gi h 31 5 = 256 ∧ lo ≤ gi h 34 (gi h 31 4) ∧ gi h 34 (gi h 31 4) ≤ hi then gi h 34 (gi h 31 4) else -1
theorem c_X3_numberFrom {d b : Nat} {Q : Option AV → AH → Prop} {h : AH} {lo hi : Int} (hp : 0 ≤ gi h 31 4 ∧ gi h 31 4 ≤ 400) (k : Q (some (vI (nFrom h lo hi))) h) : WM GX d b mX3_numberFrom [vR (some 31), vI lo, vI hi] h Q := by
  unfold nFrom at k
  refine w_X3_numberFrom ⟨fun c => ⟨by omega, fun c2 => ?_, fun c2 => ⟨by omega, fun c3 => ?_, fun c3 => ⟨by omega, ?_⟩⟩⟩, fun c => ?_⟩
  · rw [if_neg (by omega)] at k
    exact k
  · rw [if_neg (by omega)] at k
    exact k
  · rw [if_pos (by omega)] at k
    exact k
  · rw [if_neg (by omega)] at k
    exact k
def lVerb (x : Int) : Int := if 15 ≤ x ∧ x ≤ 18 then x - 15 else -1
theorem c_X3_lawVerb {d b : Nat} {Q : Option AV → AH → Prop} {h : AH} {x : Int} (k : Q (some (vI (lVerb x))) h) : WM GX d b mX3_lawVerb [vI x] h Q := by
  unfold lVerb at k
  refine w_X3_lawVerb ⟨fun c => ?_, fun c => ⟨fun c2 => ?_, fun c2 => ⟨by omega, ?_⟩⟩⟩
  · rw [if_neg (by omega)] at k
    exact k
  · rw [if_neg (by omega)] at k
    exact k
  · rw [if_pos (by omega)] at k
    exact k
def oVerb (x : Int) : Int := if x = 7 then 2 else if x = 19 then 0 else if x = 20 then 1 else if x = 21 then 3 else if x = 22 then 4 else -1
theorem c_X3_orderVerb {d b : Nat} {Q : Option AV → AH → Prop} {h : AH} {x : Int} (k : Q (some (vI (oVerb x))) h) : WM GX d b mX3_orderVerb [vI x] h Q := by
  unfold oVerb at k
  refine w_X3_orderVerb ⟨fun c => ?_, fun c1 => ⟨fun c => ?_, fun c2 => ⟨fun c => ?_, fun c3 => ⟨fun c => ?_, fun c4 => ⟨fun c => ?_, fun c5 => ?_⟩⟩⟩⟩⟩
  · rw [if_pos c] at k
    exact k
  · rw [if_neg c1, if_pos c] at k
    exact k
  · rw [if_neg c1, if_neg c2, if_pos c] at k
    exact k
  · rw [if_neg c1, if_neg c2, if_neg c3, if_pos c] at k
    exact k
  · rw [if_neg c1, if_neg c2, if_neg c3, if_neg c4, if_pos c] at k
    exact k
  · rw [if_neg c1, if_neg c2, if_neg c3, if_neg c4, if_neg c5] at k
    exact k
def lFact (x : Int) : Int := if 0 ≤ x ∧ x ≤ 10 then x else -1
theorem c_X3_lawFact {d b : Nat} {Q : Option AV → AH → Prop} {h : AH} {x : Int} (k : Q (some (vI (lFact x))) h) : WM GX d b mX3_lawFact [vI x] h Q := by
  unfold lFact at k
  refine w_X3_lawFact ⟨fun c => ?_, fun c => ⟨fun c2 => ?_, fun c2 => ?_⟩⟩
  · rw [if_neg (by omega)] at k
    exact k
  · rw [if_neg (by omega)] at k
    exact k
  · rw [if_pos (by omega)] at k
    exact k
def oFact (x : Int) : Int := if x = 4 then 22 else if x = 8 then 30 else if x = 9 then 9 else if x = 11 then 11 else if x = 12 then 12 else if x = 13 then 13 else if x = 14 then 14 else -1
theorem c_X3_orderFact {d b : Nat} {Q : Option AV → AH → Prop} {h : AH} {x : Int} (k : Q (some (vI (oFact x))) h) : WM GX d b mX3_orderFact [vI x] h Q := by
  have e : ∀ v, oFact x = v → Q (some (vI v)) h := fun v z => z ▸ k
  unfold oFact at e
  refine w_X3_orderFact ⟨fun c => e _ ?_, fun c1 => ⟨fun c => e _ ?_, fun c2 => ⟨fun c => e _ ?_, fun c3 => ⟨fun c => e _ ?_, fun c4 => ⟨fun c => e _ ?_, fun c5 => ⟨fun c => e _ ?_, fun c6 => ⟨fun c => e _ ?_, fun c7 => ⟨fun c => e _ ?_, fun c8 => ⟨fun c => e _ ?_, fun c9 => ⟨fun c => e _ ?_, fun c10 => ⟨fun c => e _ ?_, fun c11 => e _ ?_⟩⟩⟩⟩⟩⟩⟩⟩⟩⟩⟩
  all_goals (repeat' split)
  all_goals omega
/-- clause's numbers, steps: in the draft -/
def telX (h : AH) (w v : Int) : AH := if 0 ≤ (gi h 35 0 - 1) * 5 + w ∧ (gi h 35 0 - 1) * 5 + w < 60 then si h 36 ((gi h 35 0 - 1) * 5 + w) v else h
theorem c_X5_tell {d b : Nat} {Q : Option AV → AH → Prop} {h : AH} {w v : Int} (hp : 0 ≤ gi h 35 0 ∧ gi h 35 0 ≤ 20 ∧ 0 ≤ w ∧ w ≤ 4) (k : Q none (telX h w v)) : WM GX d b mX5_tell [vR (some 35), vI w, vI v] h Q := by
  unfold telX at k
  refine w_X5_tell ⟨by omega, by omega, by omega, fun c => ?_, fun c => ⟨fun c2 => ?_, fun c2 => ⟨by omega, fun h1 e1 => ?_⟩⟩⟩
  · rw [if_neg (by omega)] at k
    exact k
  · rw [if_neg (by omega)] at k
    exact k
  · rw [if_pos (by omega)] at k
    subst e1
    exact k
def addX (h : AH) (s v : Int) : AH := if gi h 35 2 + 1 < 872 then si (si (si h 37 (gi h 35 2) s) 37 (gi h 35 2 + 1) v) 35 2 (gi h 35 2 + 2) else h
theorem c_X5_add {d b : Nat} {Q : Option AV → AH → Prop} {h : AH} {s v : Int} (hp : 0 ≤ gi h 35 2 ∧ gi h 35 2 ≤ 872) (k : Q none (addX h s v)) : WM GX d b mX5_add [vR (some 35), vI s, vI v] h Q := by
  unfold addX at k
  refine w_X5_add ⟨by omega, fun c => ⟨by omega, fun h1 e1 => ⟨by omega, by omega, fun h2 e2 => ⟨by omega, fun h3 e3 => ?_⟩⟩⟩, fun c => ?_⟩
  · rw [if_pos c] at k
    subst e3 e2 e1
    exact k
  · rw [if_neg c] at k
    exact k
/-- a jump kept at place x leads to the next step -/
def lndX (h : AH) (x : Int) : AH := if 0 ≤ x ∧ x < 872 then si h 37 x (gi h 35 2) else h
theorem c_X5_land {d b : Nat} {Q : Option AV → AH → Prop} {h : AH} {x : Int} (k : Q none (lndX h x)) : WM GX d b mX5_land [vR (some 35), vI x] h Q := by
  unfold lndX at k
  refine w_X5_land ⟨fun c => ?_, fun c => ⟨fun c2 => ?_, fun c2 => ⟨by omega, fun h1 e1 => ?_⟩⟩⟩
  · rw [if_neg (by omega)] at k
    exact k
  · rw [if_neg (by omega)] at k
    exact k
  · rw [if_pos (by omega)] at k
    subst e1
    exact k
/-! the reference's -/
theorem c_X8_isWord {d b : Nat} {Q : Option AV → AH → Prop} {h : AH} {w : Int} (k : Q (some (vI (b2i (gi h 0 16 = 1 ∧ gl h 0 17 = w)))) h) : WM GM d b mX8_isWord [vR (some 0), vL w] h Q :=
  w_X8_isWord ⟨fun c => ⟨fun c2 => qb_t k ⟨c, c2⟩, fun c2 => qb_f k (fun z => c2 z.2)⟩, fun c => qb_f k (fun z => c z.1)⟩
theorem c_X8_isSign {d b : Nat} {Q : Option AV → AH → Prop} {h : AH} {w : Int} (k : Q (some (vI (b2i (gi h 0 16 = 3 ∧ gl h 0 17 = w)))) h) : WM GM d b mX8_isSign [vR (some 0), vI w] h Q :=
  w_X8_isSign ⟨fun c => ⟨fun c2 => qb_t k ⟨c, c2⟩, fun c2 => qb_f k (fun z => c2 z.2)⟩, fun c => qb_f k (fun z => c z.1)⟩
/-- the innermost bracket of a pile of n -/
def innF (f : Int → Int) : Nat → Int
  | 0 => -1
  | n + 1 => if 31 ≤ f n then f n else innF f n
theorem lp_inner {d b : Nat} {Q : Option AV → AH → Prop} {h : AH} (hp : 0 ≤ gi h 0 29 ∧ gi h 0 29 ≤ 400) (k : Q (some (vI (innF (gi h 13) (gi h 0 29).toNat))) h) : ∀ (m i : Nat), (i : Int) + m = gi h 0 29 → Lp_X8_inner_4 d b Q (innF (gi h 13) i) i h
  | 0, i, e => by
    have : (gi h 0 29).toNat = i := by omega
    rw [this] at k
    exact l_X8_inner_4 ⟨fun _ => k, fun z => by omega⟩
  | m + 1, i, e => by
    have ih := lp_inner (d := d) (b := b) hp k m (i + 1) (by omega)
    unfold innF at ih
    refine l_X8_inner_4 ⟨fun z => by omega, fun _ => ⟨by omega, fun c => ⟨by omega, ?_⟩, fun c => ⟨by omega, by omega, ?_⟩⟩⟩
    · rw [if_neg (by omega)] at ih
      exact ih
    · rw [if_pos (by omega)] at ih
      exact ih
theorem c_X8_inner {d b : Nat} {Q : Option AV → AH → Prop} {h : AH} (hp : 0 ≤ gi h 0 29 ∧ gi h 0 29 ≤ 400) (k : Q (some (vI (innF (gi h 13) (gi h 0 29).toNat))) h) : WM GM d b mX8_inner [vR (some 0)] h Q :=
  w_X8_inner (lp_inner hp k (gi h 0 29).toNat 0 (by omega))
/-- whether the pile's last comparison waits for its second sum -/
def cmpF (f : Int → Int) : Nat → Int
  | 0 => 0
  | n + 1 => if 20 ≤ f n ∧ f n ≤ 24 then cmpF f n else b2i (25 ≤ f n ∧ f n ≤ 27)
theorem lp_cmp {d b : Nat} {Q : Option AV → AH → Prop} {h : AH} : ∀ (n : Nat), n ≤ 400 → Q (some (vI (cmpF (gi h 13) n))) h → Lp_X8_isCompared_7 d b Q ((n : Int) - 1) h
  | 0, _, k => l_X8_isCompared_7 ⟨fun _ => ⟨fun _ => k, fun z => by omega⟩, fun z => by omega⟩
  | n + 1, hn, k => by
    have e : ((n + 1 : Nat) : Int) - 1 = n := by omega
    unfold cmpF at k
    rw [e]
    refine l_X8_isCompared_7 ⟨fun z => by omega, fun _ => ⟨by omega, fun c => ⟨by omega, ?_⟩, fun c => ⟨fun z => by omega, fun _ => ⟨by omega, fun c2 => ?_, fun c2 => ?_⟩⟩⟩⟩
    · rw [if_pos c] at k
      exact lp_cmp n (by omega) k
    · rw [if_neg c] at k
      exact qb_t k c2
    · rw [if_neg c] at k
      exact qb_f k c2
theorem c_X8_isCompared {d b : Nat} {Q : Option AV → AH → Prop} {h : AH} (hp : 0 ≤ gi h 0 29 ∧ gi h 0 29 ≤ 400) (k : Q (some (vI (cmpF (gi h 13) (gi h 0 29).toNat))) h) : WM GM (d + 1) b mX8_isCompared [vR (some 0)] h Q := by
  refine w_X8_isCompared ⟨by omega, ?_⟩
  have := lp_cmp (d := d) (b := b) (gi h 0 29).toNat (by omega) k
  rwa [show ((gi h 0 29).toNat : Int) = gi h 0 29 by omega] at this
