/-! what the law in force tells, over the reference's row -/
def EB (e : Int → Int) : Prop := ∀ i, 1 ≤ i → i ≤ 11 → -1000000000 ≤ e i ∧ e i ≤ 1000000000
def envR (r : Int → Int) (door house cell fish caught : Int) : Int → Int := fun i =>
  if i = 1 then door else if i = 2 then r (72 + door) else if i = 3 then r (80 + door) else if i = 4 then r (88 + door) else if i = 5 then house else if i = 6 then (if house = -1 then -1 else r (64 + house)) else if i = 7 then cell else if i = 8 then fish else if i = 9 then caught else if i = 10 then r 5 else if i = 11 then r 6 else 0
def rTells (r e : Int → Int) (head wo : Int) : Int := if r 4 = -1 then wo else mTells (lawC r (r 4)) e head wo (lawC r (r 4) 1).toNat
def mHas (c : Int → Int) : Nat → Int
  | 0 => 0
  | n + 1 => if mHas c n = 0 then (if c (2 + 8 * n) = 2 then 1 else 0) else 1
def rHas (r : Int → Int) : Int := if r 4 = -1 then 0 else mHas (lawC r (r 4)) (lawC r (r 4) 1).toNat
/-- what the reference needs to tell -/
def LawK (h : AH) : Prop := gi h 0 20 = 0 ∧ InvR (gi h 2) ∧ (gi h 2 4 ≠ -1 → 0 ≤ lawC (gi h 2) (gi h 2 4) 1 ∧ lawC (gi h 2) (gi h 2 4) 1 ≤ 12 ∧ ∀ e, EB e → ∀ n : Nat, (n : Int) < lawC (gi h 2) (gi h 2 4) 1 → OkC (lawC (gi h 2) (gi h 2 4)) e n)
theorem TL.row {a b : AH} (x : TL a b) : gi b 2 = gi a 2 := funext fun k => x.1 2 k (by omega)
theorem LawK.tl {a b : AH} (H : LawK a) (x : TL a b) : LawK b := by
  unfold LawK
  rw [x.row, x.1 0 20 (by omega)]
  exact H
theorem InvR.env {r : Int → Int} (V : InvR r) {d h c f g : Int} (hd : 0 ≤ d ∧ d < r 1) (hh : -1 ≤ h ∧ h < r 0) (hc : -1 ≤ c ∧ c < 25) (hf : -1000000000 ≤ f ∧ f ≤ 1000000000) (hg : -1000000000 ≤ g ∧ g ≤ 1000000000) : EB (envR r d h c f g) := by
  obtain ⟨v1, v2, -, -, v5, -, -⟩ := V
  have w1 : 0 ≤ r 5 ∧ r 5 ≤ 999 ∧ 0 ≤ r 6 ∧ r 6 ≤ 9 ∧ r 1 ≤ 8 ∧ r 0 ≤ 8 := by omega
  have w2 : 1 ≤ r (72 + d) ∧ r (72 + d) ≤ 9 ∧ 0 ≤ r (80 + d) ∧ r (80 + d) ≤ 3 ∧ 0 ≤ r (88 + d) ∧ r (88 + d) < r 0 := by
    have := v2 d hd.1 hd.2
    omega
  have w3 : 0 ≤ h → 1 ≤ r (64 + h) ∧ r (64 + h) ≤ 9 := fun z => v5 h z hh.2
  clear v1 v2 v5
  intro i i0 i1
  have : i = 0 ∨ i = 1 ∨ i = 2 ∨ i = 3 ∨ i = 4 ∨ i = 5 ∨ i = 6 ∨ i = 7 ∨ i = 8 ∨ i = 9 ∨ i = 10 ∨ i = 11 := by omega
  unfold envR
  rcases this with e | e | e | e | e | e | e | e | e | e | e | e <;> subst e <;> simp only [Int.reduceEq, if_true, if_false, ↓reduceIte]
  all_goals omega
theorem TL.s34 {a b : AH} (x : TL a b) {v : Int} : TL a (si b 0 34 v) := x.trans ⟨fun q k z => by rw [gi_si, if_neg (by omega)], fun _ _ _ _ _ => rfl⟩
theorem TL.s18 {a b : AH} (x : TL a b) {i v : Int} : TL a (sl b 18 i v) := x.trans ⟨fun _ _ _ => rfl, fun q k z w u => by rw [gl_sl, if_neg (by omega)]⟩
theorem TL.lawM {a b : AH} {e : Int → Int} (H : LawK a) (x : TL a b) (h4 : gi a 2 4 ≠ -1) (he : EB e) (h34 : gi b 0 34 = 140 + 900 * gi a 2 4) (hs : ∀ i, 1 ≤ i → i ≤ 11 → gl b 18 i = e i) : LawM b (lawC (gi a 2) (gi a 2 4)) e := by
  have w := H.2.1.1
  refine ⟨(x.1 0 20 (by omega)).trans H.1, by rw [h34]; omega, fun j j0 j1 => ?_, H.2.1.2.2.2.2.2.2 _ (by omega) (by omega), fun i i0 i1 => ⟨hs i i0 i1, he i (by omega) i1⟩⟩
  rw [x.row, h34, lawC_at j0]
theorem c_X8_tells {d b : Nat} {Q : Option AV → AH → Prop} {h : AH} {head door house cell fish caught wo : Int} (H : LawK h) (hd : 0 ≤ door ∧ door < gi h 2 1) (hh : -1 ≤ house ∧ house < gi h 2 0) (hc : -1 ≤ cell ∧ cell < 25)
    (hf : -1000000000 ≤ fish ∧ fish ≤ 1000000000) (hg : -1000000000 ≤ caught ∧ caught ≤ 1000000000) (k : ∀ h', TL h h' → Q (some (vL (rTells (gi h 2) (envR (gi h 2) door house cell fish caught) head wo))) h') :
    WM GM (d + 4) b mX8_tells [vR (some 0), vI head, vI door, vI house, vI cell, vI fish, vI caught, vL wo] h Q := by
  have w := H.2.1.1
  have he := H.2.1.env hd hh hc hf hg
  have fin : ∀ h1, gi h 2 4 ≠ -1 → TL h h1 → gi h1 0 34 = 140 + 900 * gi h 2 4 → (∀ i, 1 ≤ i → i ≤ 11 → gl h1 18 i = envR (gi h 2) door house cell fish caught i) → Lp_X8_tells_189 d b Q head wo 0 h1 := fun h1 h4 T e1 e2 => by
    obtain ⟨g1, g2, g3⟩ := H.2.2 h4
    refine lp_tells (wo := wo) (h0 := h) ⟨g1, g2⟩ (g3 _ he) (fun h' T' => ?_) (lawC (gi h 2) (gi h 2 4) 1).toNat 0 h1 (by omega) (TL.lawM H T h4 he e1 e2) T
    have := k h' T'
    unfold rTells at this
    rwa [if_neg h4] at this
  refine w_X8_tells ⟨fun c => ?_, fun c => ⟨by omega, by omega, ?_⟩⟩
  · have := k h TL.rfl'
    unfold rTells at this
    rwa [if_pos c] at this
  intro h1 e1 h2 e2
  refine ⟨by omega, by omega, fun h3 e3 => ⟨by omega, by omega, fun h4 e4 => ⟨by omega, by omega, fun h5 e5 h6 e6 => ⟨fun z h13 e13 h14 e14 h15 e15 h16 e16 h17 e17 h18 e18 => fin _ c ?_ ?_ ?_, fun z => ⟨by omega, by omega, fun h7 e7 h8 e8 h9 e9 h10 e10 h11 e11 h12 e12 => fin _ c ?_ ?_ ?_⟩⟩⟩⟩⟩
  · subst e18 e17 e16 e15 e14 e13 e6 e5 e4 e3 e2 e1
    exact TL.rfl'.s34.s18.s18.s18.s18.s18.s18.s18.s18.s18.s18.s18
  · subst e18 e17 e16 e15 e14 e13 e6 e5 e4 e3 e2 e1
    show gi (si h 0 34 (140 + 900 * gi h 2 4)) 0 34 = _
    exact gi_eq
  · intro i i0 i1
    subst e18 e17 e16 e15 e14 e13 e6 e5 e4 e3 e2 e1
    have : i = 1 ∨ i = 2 ∨ i = 3 ∨ i = 4 ∨ i = 5 ∨ i = 6 ∨ i = 7 ∨ i = 8 ∨ i = 9 ∨ i = 10 ∨ i = 11 := by omega
    unfold envR
    rcases this with e | e | e | e | e | e | e | e | e | e | e <;> subst e <;> simp only [gl_sl, Int.reduceEq, and_true, and_false, true_and, if_true, if_false, ↓reduceIte, z]
  · subst e12 e11 e10 e9 e8 e7 e6 e5 e4 e3 e2 e1
    exact TL.rfl'.s34.s18.s18.s18.s18.s18.s18.s18.s18.s18.s18.s18
  · subst e12 e11 e10 e9 e8 e7 e6 e5 e4 e3 e2 e1
    show gi (si h 0 34 (140 + 900 * gi h 2 4)) 0 34 = _
    exact gi_eq
  · intro i i0 i1
    subst e12 e11 e10 e9 e8 e7 e6 e5 e4 e3 e2 e1
    have : i = 1 ∨ i = 2 ∨ i = 3 ∨ i = 4 ∨ i = 5 ∨ i = 6 ∨ i = 7 ∨ i = 8 ∨ i = 9 ∨ i = 10 ∨ i = 11 := by omega
    unfold envR
    rcases this with e | e | e | e | e | e | e | e | e | e | e <;> subst e <;> simp only [gl_sl, Int.reduceEq, and_true, and_false, true_and, if_true, if_false, ↓reduceIte, z]
theorem mHas_01 (c : Int → Int) : ∀ n, mHas c n = 0 ∨ mHas c n = 1
  | 0 => Or.inl rfl
  | n + 1 => by
    unfold mHas
    split
    · split
      · exact Or.inr rfl
      · exact Or.inl rfl
    · exact Or.inr rfl
theorem lp_tellsFits {d b : Nat} {Q : Option AV → AH → Prop} {h : AH} (H : LawK h) (k : Q (some (vI (rHas (gi h 2)))) h) (h4 : gi h 2 4 ≠ -1) :
    ∀ (m n : Nat), (n : Int) + m = lawC (gi h 2) (gi h 2 4) 1 → Lp_X8_tellsFits_4 d b Q (mHas (lawC (gi h 2) (gi h 2 4)) n) n h
  | m, n, hm => by
    have w := H.2.1.1
    have g := H.2.2 h4
    have e1 : gi h 2 (140 + 900 * gi h 2 4 + 1) = lawC (gi h 2) (gi h 2 4) 1 := (lawC_at (by decide)).symm
    have s := mHas_01 (lawC (gi h 2) (gi h 2 4)) n
    refine l_X8_tellsFits_4 ⟨fun c => absurd c h4, fun _ => ⟨by omega, by omega, by omega, by omega, fun z => ⟨s, ?_⟩, fun z => ?_⟩⟩
    · have : (lawC (gi h 2) (gi h 2 4) 1).toNat = n := by omega
      unfold rHas at k
      rwa [if_neg h4, this] at k
    rw [e1] at z
    match m, hm with
    | 0, hm => omega
    | m + 1, hm =>
      have nx := lp_tellsFits (d := d) (b := b) H k h4 m (n + 1) (by omega)
      have e2 : gi h 2 (140 + 900 * gi h 2 4 + 2 + 8 * n) = lawC (gi h 2) (gi h 2 4) (2 + 8 * n) := by
        rw [lawC_at (by omega)]
        congr 1
        omega
      rw [e2]
      refine ⟨fun c => ⟨by omega, by omega, by omega, by omega, by omega, by omega, fun c2 => ⟨by omega, ?_⟩, fun c2 => ⟨by omega, ?_⟩⟩, fun c => ⟨by omega, ?_⟩⟩
      · rw [show mHas (lawC (gi h 2) (gi h 2 4)) (n + 1) = 1 from by show (if _ then _ else _) = _; rw [if_pos c, if_pos c2]] at nx
        exact nx
      · rw [show mHas (lawC (gi h 2) (gi h 2 4)) (n + 1) = 0 from by show (if _ then _ else _) = _; rw [if_pos c, if_neg c2]] at nx
        exact nx
      · rw [show mHas (lawC (gi h 2) (gi h 2 4)) (n + 1) = 1 from by show (if _ then _ else _) = _; rw [if_neg c]] at nx
        exact nx
theorem c_X8_tellsFits {d b : Nat} {Q : Option AV → AH → Prop} {h : AH} (H : LawK h) (k : Q (some (vI (rHas (gi h 2)))) h) : WM GM d b mX8_tellsFits [vR (some 0)] h Q := by
  refine w_X8_tellsFits ?_
  by_cases h4 : gi h 2 4 = -1
  · refine l_X8_tellsFits_4 ⟨fun _ => ⟨Or.inl rfl, ?_⟩, fun c => absurd h4 c⟩
    unfold rHas at k
    rwa [if_pos h4] at k
  · have g := H.2.2 h4
    exact lp_tellsFits H k h4 (lawC (gi h 2) (gi h 2 4) 1).toNat 0 (by omega)
/-! catches, slams, fits, barred -/
def rCatch (r : Int → Int) (d cell fish caught : Int) : Int :=
  let its := zwit (rTells r (envR r d (-1) cell fish caught) 0 (3 * r (72 + d))) 0 99
  if fish ≤ its then fish else its
def rSlam (r : Int → Int) (d cell : Int) : Int := zwit (rTells r (envR r d (-1) cell (r (39 + cell)) (r (23 + d))) 1 1) 0 10
abbrev rFits (r : Int → Int) (d h : Int) : Prop := if rHas r = 0 then -1 ≤ r (72 + d) - r (64 + h) ∧ r (72 + d) - r (64 + h) ≤ 1 else rTells r (envR r d h (-1) (-1) (r (23 + d))) 2 0 = 1
abbrev rBar (r : Int → Int) (d : Int) : Prop := rTells r (envR r d (r (7 + d)) (-1) (-1) (r (23 + d))) 3 0 = 1
theorem c_X8_catches {d b : Nat} {Q : Option AV → AH → Prop} {h : AH} {door cell fish caught : Int} (H : LawK h) (hd : 0 ≤ door ∧ door < gi h 2 1) (hc : -1 ≤ cell ∧ cell < 25) (hf : -1000000000 ≤ fish ∧ fish ≤ 1000000000) (hg : -1000000000 ≤ caught ∧ caught ≤ 1000000000)
    (k : ∀ h', TL h h' → Q (some (vI (rCatch (gi h 2) door cell fish caught))) h') : WM GM (d + 5) b mX8_catches [vR (some 0), vI door, vI cell, vI fish, vI caught] h Q := by
  have w := H.2.1.1
  have w2 := (H.2.1.2.1 door hd.1 hd.2)
  have w3 : 1 ≤ gi h 2 (72 + door) ∧ gi h 2 (72 + door) ≤ 9 := by omega
  clear w2
  refine w_X8_catches ⟨by omega, by omega, by omega, ?_⟩
  refine c_X8_tells H hd (by omega) hc hf hg (fun h' T => ⟨_, rfl, ⟨by decide, by decide⟩, fun z => ?_, fun z => ?_⟩)
  · have := k h' T
    unfold rCatch at this
    rwa [if_pos z] at this
  · have := k h' T
    unfold rCatch at this
    rwa [if_neg z] at this
theorem c_X8_slams {d b : Nat} {Q : Option AV → AH → Prop} {h : AH} {door cell : Int} (H : LawK h) (hd : 0 ≤ door ∧ door < gi h 2 1) (hc : 0 ≤ cell ∧ cell < 25)
    (k : ∀ h', TL h h' → Q (some (vI (rSlam (gi h 2) door cell))) h') : WM GM (d + 5) b mX8_slams [vR (some 0), vI door, vI cell] h Q := by
  have w := H.2.1.1
  have w2 := (H.2.1.2.1 door hd.1 hd.2)
  have w3 : 0 ≤ gi h 2 (23 + door) ∧ gi h 2 (23 + door) ≤ 999 := by omega
  clear w2
  have w4 := (H.2.1.2.2.2.1 cell hc.1 hc.2).1
  have w5 := (H.2.1.2.2.2.1 cell hc.1 hc.2).2.1
  refine w_X8_slams ⟨by omega, by omega, by omega, by omega, ?_⟩
  exact c_X8_tells H hd (by omega) (by omega) (by omega) (by omega) (fun h' T => ⟨_, rfl, ⟨by decide, by decide⟩, k h' T⟩)
theorem c_X8_fits {d b : Nat} {Q : Option AV → AH → Prop} {h : AH} {door house : Int} (H : LawK h) (hd : 0 ≤ door ∧ door < gi h 2 1) (hh : 0 ≤ house ∧ house < gi h 2 0)
    (k : ∀ h', TL h h' → Q (some (vI (b2i (rFits (gi h 2) door house)))) h') : WM GM (d + 5) b mX8_fits [vR (some 0), vI door, vI house] h Q := by
  have w := H.2.1.1
  have w2 := (H.2.1.2.1 door hd.1 hd.2)
  have w3 : 0 ≤ gi h 2 (23 + door) ∧ gi h 2 (23 + door) ≤ 999 ∧ 1 ≤ gi h 2 (72 + door) ∧ gi h 2 (72 + door) ≤ 9 := by omega
  clear w2
  have w4 := H.2.1.2.2.2.2.1 house hh.1 hh.2
  refine w_X8_fits (c_X8_tellsFits H ⟨_, rfl, fun z => ⟨by omega, by omega, by omega, by omega, by omega, ?_⟩, fun z => ⟨by omega, by omega, ?_⟩⟩)
  · have := k h TL.rfl'
    unfold rFits at this
    simp only [if_pos z] at this
    exact this
  · refine c_X8_tells H hd (by omega) (by omega) (by omega) (by omega) (fun h' T => ⟨_, rfl, fun c => ?_, fun c => ?_⟩)
    · exact qb_t (k h' T) (by unfold rFits; rw [if_neg z]; exact c)
    · exact qb_f (k h' T) (by unfold rFits; rw [if_neg z]; exact c)
theorem c_X8_isBarred {d b : Nat} {Q : Option AV → AH → Prop} {h : AH} {door : Int} (H : LawK h) (hd : 0 ≤ door ∧ door < gi h 2 1)
    (k : ∀ h', TL h h' → Q (some (vI (b2i (rBar (gi h 2) door)))) h') : WM GM (d + 5) b mX8_isBarred [vR (some 0), vI door] h Q := by
  have w := H.2.1.1
  have w2 := (H.2.1.2.1 door hd.1 hd.2)
  have w3 : 0 ≤ gi h 2 (23 + door) ∧ gi h 2 (23 + door) ≤ 999 ∧ -1 ≤ gi h 2 (7 + door) ∧ gi h 2 (7 + door) < gi h 2 0 := by omega
  clear w2
  refine w_X8_isBarred ⟨by omega, by omega, by omega, by omega, ?_⟩
  refine c_X8_tells H hd (by omega) (by omega) (by omega) (by omega) (fun h' T => ⟨_, rfl, fun c => ?_, fun c => ?_⟩)
  · exact qb_t (k h' T) c
  · exact qb_f (k h' T) c
