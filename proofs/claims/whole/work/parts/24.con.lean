/-! the class's judge: what the steps of a text say -/
/-- what judging may change -/
def VX (a b : AH) : Prop := (∀ q k, q ≠ 40 → gi b q k = gi a q k) ∧ rf b = rf a ∧ kd b = kd a ∧ hn b = hn a
def JX (a b : AH) : Prop := (∀ q k, q ≠ 39 → q ≠ 40 → gi b q k = gi a q k) ∧ rf b = rf a ∧ kd b = kd a ∧ hn b = hn a
theorem VX.rfl' {a : AH} : VX a a := ⟨fun _ _ _ => rfl, rfl, rfl, rfl⟩
theorem VX.trans {a b c : AH} (x : VX a b) (y : VX b c) : VX a c := ⟨fun q k z => (y.1 q k z).trans (x.1 q k z), y.2.1.trans x.2.1, y.2.2.1.trans x.2.2.1, y.2.2.2.trans x.2.2.2⟩
theorem VX.si {a b : AH} (x : VX a b) {i v : Int} : VX a (si b 40 i v) := x.trans ⟨fun q k z => by rw [gi_si, if_neg (fun w => z w.1)], rfl, rfl, rfl⟩
theorem VX.j {a b : AH} (x : VX a b) : JX a b := ⟨fun q k _ z => x.1 q k z, x.2⟩
theorem JX.rfl' {a : AH} : JX a a := ⟨fun _ _ _ _ => rfl, rfl, rfl, rfl⟩
theorem JX.trans {a b c : AH} (x : JX a b) (y : JX b c) : JX a c := ⟨fun q k z w => (y.1 q k z w).trans (x.1 q k z w), y.2.1.trans x.2.1, y.2.2.1.trans x.2.2.1, y.2.2.2.trans x.2.2.2⟩
theorem JX.si {a b : AH} (x : JX a b) {i v : Int} : JX a (si b 39 i v) := x.trans ⟨fun q k z w => by rw [gi_si, if_neg (fun u => z u.1)], rfl, rfl, rfl⟩
theorem JX.same {a b : AH} (x : JX a b) : SameX a b := ⟨⟨Nat.le_of_eq x.2.2.2.symm, fun q h _ => ⟨by rw [x.2.2.1], fun k => x.1 q k (by omega) (by omega), fun k => by rw [x.2.1]⟩⟩, fun q k z => x.1 q k (by unfold coreX at z; omega) (by unfold coreX at z; omega), fun q k _ => by rw [x.2.1]⟩
theorem JX.kd' {a b : AH} (x : JX a b) {o : Nat} {t : AK} (k : Kd GX a o t) : Kd GX b o t := by
  unfold Kd at *
  rw [x.2.2.1, x.2.2.2]
  exact k
def xRaw (sign a b : Int) : Int := if sign = 43 then a + b else if sign = 45 then a - b else if sign = 42 then a * b else if sign = 47 then (if b = 0 then xBr else a.tdiv b) else if sign = 37 then (if b = 0 then xBr else a.tmod b) else if sign = 60 then b2i (a < b) else if sign = 62 then b2i (b < a) else if sign = 61 then b2i (a = b) else xBr
theorem xJo_raw {sign a b v : Int} (e : xRaw sign a b = v) : xJo sign a b = if v < -1000000000 ∨ 1000000000 < v then xBr else v := by
  subst e
  rfl
theorem xJo_in {sign a b v w : Int} (e : xRaw sign a b = v) (h : -1000000000 ≤ v ∧ v ≤ 1000000000) (hw : w = v) : xJo sign a b = w := by
  rw [xJo_raw e, if_neg (by omega), hw]
theorem xJo_out {sign a b v : Int} (e : xRaw sign a b = v) (h : v < -1000000000 ∨ 1000000000 < v) : xJo sign a b = -2000000000 := by
  rw [xJo_raw e, if_pos h]
  rfl
theorem xJo_bd (sign a b : Int) : xJo sign a b = xBr ∨ (-1000000000 ≤ xJo sign a b ∧ xJo sign a b ≤ 1000000000) := by
  rw [xJo_raw rfl]
  split
  · exact Or.inl rfl
  · exact Or.inr (by omega)
theorem c_X1_joined {d b : Nat} {Q : Option AV → AH → Prop} {h : AH} {sign x z : Int} (hx : Bv x) (hz : Bv z) (k : Q (some (vI (xJo sign x z))) h) : WM GX d b mX1_joined [vI sign, vL x, vL z] h Q := by
  have m := mulB hx hz
  have t1 := tdivB (z := z) hx
  have t2 := tmodB (z := z) hx
  have br : xRaw sign x z = xBr → Q (some (vI (-2000000000))) h := fun e => qi k (xJo_out e (by unfold xBr; omega))
  have lo : ∀ v, xRaw sign x z = v → v < -1000000000 → Q (some (vI (-2000000000))) h := fun v e c => qi k (xJo_out e (Or.inl c))
  have hi : ∀ v, xRaw sign x z = v → ¬ v ≤ 1000000000 → Q (some (vI (-2000000000))) h := fun v e c => qi k (xJo_out e (by omega))
  have ok : ∀ v, xRaw sign x z = v → ¬ v < -1000000000 → v ≤ 1000000000 → Q (some (vI (zl2i v))) h := fun v e c c' => qi k (xJo_in e (by omega) (zl2i_e (by omega)))
  refine w_X1_joined ?_
  refine ⟨fun c => ⟨fun c1 => br ?_, fun c1 => ⟨c1, t2, fun c2 => lo _ ?_ c2, fun c2 => ⟨fun c3 => ok _ ?_ c2 c3, fun c3 => hi _ ?_ c3⟩⟩⟩, fun d37 => ⟨fun c => br ?_, fun d38 => ⟨fun c => br ?_, fun d39 => ⟨fun c => br ?_, fun d40 => ⟨fun c => br ?_, fun d41 => ⟨fun c => ⟨m, fun c2 => lo _ ?_ c2, fun c2 => ⟨fun c3 => ok _ ?_ c2 c3, fun c3 => hi _ ?_ c3⟩⟩, fun d42 => ⟨fun c => ⟨by omega, fun c2 => lo _ ?_ c2, fun c2 => ⟨fun c3 => ok _ ?_ c2 c3, fun c3 => hi _ ?_ c3⟩⟩, fun d43 => ⟨fun c => br ?_, fun d44 => ⟨fun c => ⟨by omega, fun c2 => lo _ ?_ c2, fun c2 => ⟨fun c3 => ok _ ?_ c2 c3, fun c3 => hi _ ?_ c3⟩⟩, fun d45 => ⟨fun c => br ?_, fun d46 => ⟨fun c => ⟨fun c1 => br ?_, fun c1 => ⟨c1, t1, fun c2 => lo _ ?_ c2, fun c2 => ⟨fun c3 => ok _ ?_ c2 c3, fun c3 => hi _ ?_ c3⟩⟩⟩, fun d47 => ?_⟩⟩⟩⟩⟩⟩⟩⟩⟩⟩⟩
  all_goals first
    | (subst c; simp only [xRaw, Int.reduceEq, ↓reduceIte]; done)
    | (subst c; simp only [xRaw, Int.reduceEq, ↓reduceIte]; rw [if_pos c1])
    | (subst c; simp only [xRaw, Int.reduceEq, ↓reduceIte]; rw [if_neg c1])
    | (subst c; simp only [xRaw, Int.reduceEq, ↓reduceIte]; exact b2i_t (by omega))
    | (subst c; simp only [xRaw, Int.reduceEq, ↓reduceIte]; exact b2i_f (by omega))
    | skip
  refine ⟨fun c => br ?_, fun d48 => ⟨fun c => br ?_, fun d49 => ⟨fun c => br ?_, fun d50 => ⟨fun c => br ?_, fun d51 => ⟨fun c => br ?_, fun d52 => ⟨fun c => br ?_, fun d53 => ⟨fun c => br ?_, fun d54 => ⟨fun c => br ?_, fun d55 => ⟨fun c => br ?_, fun d56 => ⟨fun c => br ?_, fun d57 => ⟨fun c => br ?_, fun d58 => ⟨fun c => br ?_, fun d59 => ⟨fun c => ⟨fun c1 => ok 0 ?_ (by omega) (by omega), fun c1 => ok 1 ?_ (by omega) (by omega)⟩, fun d60 => ⟨fun c => ⟨fun c1 => ok 1 ?_ (by omega) (by omega), fun c1 => ok 0 ?_ (by omega) (by omega)⟩, fun d61 => ⟨fun c => ⟨fun c1 => ok 0 ?_ (by omega) (by omega), fun c1 => ok 1 ?_ (by omega) (by omega)⟩, fun d62 => br ?_⟩⟩⟩⟩⟩⟩⟩⟩⟩⟩⟩⟩⟩⟩⟩
  all_goals first
    | (subst c; simp only [xRaw, Int.reduceEq, ↓reduceIte]; done)
    | (subst c; simp only [xRaw, Int.reduceEq, ↓reduceIte]; rw [if_pos c1])
    | (subst c; simp only [xRaw, Int.reduceEq, ↓reduceIte]; rw [if_neg c1])
    | (subst c; simp only [xRaw, Int.reduceEq, ↓reduceIte]; exact b2i_t (by omega))
    | (subst c; simp only [xRaw, Int.reduceEq, ↓reduceIte]; exact b2i_f (by omega))
    | skip
  unfold xRaw
  rw [if_neg d43, if_neg d45, if_neg d42, if_neg d47, if_neg d37, if_neg d60, if_neg d62, if_neg d61]
theorem c_X5_told {d b : Nat} {Q : Option AV → AH → Prop} {h : AH} {t a na : Nat} {i j : Int} (kt : Kd GX h t (.inl 5)) (ra : rf h t 1 = some a) (ka : Kd GX h a (.inr (0, na))) (hi : 0 ≤ i ∧ i ≤ 12) (hj : 0 ≤ j ∧ j ≤ 4) (hn : 5 * i + j < na) (hna : na ≤ 60) (k : Q (some (vI (gi h a (5 * i + j)))) h) : WM GX d b mX5_told [vR (some t), vI i, vI j] h Q := by
  refine w_X5_told kt ⟨by omega, by omega, fun c => by omega, fun c => ⟨a, na, ra, ka, by omega, fun c2 => by omega, fun c2 => ⟨a, na, ra, ka, by omega, ?_⟩⟩⟩
  rw [show i * 5 + j = 5 * i + j by omega]
  exact k
def StkX (h : AH) (st : List Int) : Prop := ∀ j : Nat, j < st.length → gi h 40 ((st.length : Int) - 1 - j) = st.getD j 0
theorem StkX.push {h h' : AH} {st : List Int} {v : Int} (H : StkX h st) (e : ∀ i : Int, 0 ≤ i → i < st.length → gi h' 40 i = gi h 40 i) (ev : gi h' 40 st.length = v) : StkX h' (v :: st) := by
  intro j hj
  rw [List.length_cons] at hj ⊢
  match j, hj with
  | 0, _ =>
    rw [show ((st.length + 1 : Nat) : Int) - 1 - (0 : Nat) = st.length by omega, ev]
    rfl
  | j + 1, hj =>
    rw [show ((st.length + 1 : Nat) : Int) - 1 - ((j + 1 : Nat) : Int) = (st.length : Int) - 1 - j by omega, e _ (by omega) (by omega), H j (by omega)]
    rfl
theorem StkX.pop {h : AH} {st : List Int} {v : Int} (H : StkX h (v :: st)) : StkX h st := by
  intro j hj
  have := H (j + 1) (by rw [List.length_cons]; omega)
  rw [List.length_cons, show ((st.length + 1 : Nat) : Int) - 1 - ((j + 1 : Nat) : Int) = (st.length : Int) - 1 - j by omega] at this
  rw [this]
  rfl
theorem StkX.top {h : AH} {st : List Int} {v : Int} (H : StkX h (v :: st)) : gi h 40 st.length = v := by
  have := H 0 (by rw [List.length_cons]; omega)
  rw [List.length_cons, show ((st.length + 1 : Nat) : Int) - 1 - ((0 : Nat) : Int) = (st.length : Int) by omega] at this
  rw [this]
  rfl
