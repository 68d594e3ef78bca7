/-! how the reference reckons its code -/
def mRaw (op a b : Int) : Option Int := if op = 20 then some (a + b) else if op = 21 then some (a - b) else if op = 22 then some (a * b) else if op = 23 then (if b = 0 then none else some (a.tdiv b)) else if op = 24 then (if b = 0 then none else some (a.tmod b)) else if op = 25 then some (b2i (a < b)) else if op = 26 then some (b2i (b < a)) else some (b2i (a = b))
theorem mRe_raw (op a b : Int) : mRe op a b = (match mRaw op a b with
  | none => none
  | some v => if -1000000000 ≤ v ∧ v ≤ 1000000000 then some v else none) := rfl
/-- values while code is reckoned -/
abbrev Bv (x : Int) : Prop := -1000000000 ≤ x ∧ x ≤ 1000000001
theorem mulB {x z : Int} (hx : Bv x) (hz : Bv z) : R64 (x * z) := by
  have h1 : x.natAbs ≤ 1000000001 := by omega
  have h2 : z.natAbs ≤ 1000000001 := by omega
  have h3 : (x * z).natAbs ≤ 1000000001 * 1000000001 := by rw [Int.natAbs_mul]; exact Nat.mul_le_mul h1 h2
  omega
theorem tdivB {x z : Int} (hx : Bv x) : R64 (x.tdiv z) := by
  have h1 : x.natAbs ≤ 1000000001 := by omega
  have h3 : (x.tdiv z).natAbs ≤ x.natAbs := by rw [Int.natAbs_tdiv]; exact Nat.div_le_self _ _
  omega
theorem tmodB {x z : Int} (hx : Bv x) : R64 (x.tmod z) := by
  have h1 : x.natAbs ≤ 1000000001 := by omega
  have h3 : (x.tmod z).natAbs ≤ x.natAbs := by rw [Int.natAbs_tmod]; exact Nat.mod_le _ _
  omega
/-- what reckoning may change -/
def FM (h0 h : AH) : Prop := (∀ q k, ¬ (q = 0 ∧ k = 38) → gi h q k = gi h0 q k) ∧ ∀ q k, q ≠ 20 → ¬ (q = 0 ∧ (k = 39 ∨ k = 40)) → gl h q k = gl h0 q k
theorem FM.rfl' {h : AH} : FM h h := ⟨fun _ _ _ => rfl, fun _ _ _ _ => rfl⟩
theorem FM.trans {a b c : AH} (x : FM a b) (y : FM b c) : FM a c := ⟨fun q k z => (y.1 q k z).trans (x.1 q k z), fun q k z w => (y.2 q k z w).trans (x.2 q k z w)⟩
theorem FM.si {a b : AH} (x : FM a b) {v : Int} : FM a (si b 0 38 v) := x.trans ⟨fun q k z => by rw [gi_si, if_neg z], fun _ _ _ _ => rfl⟩
theorem FM.sl {a b : AH} (x : FM a b) {q : Nat} {i v : Int} (h : q = 20 ∨ (q = 0 ∧ (i = 39 ∨ i = 40))) : FM a (sl b q i v) := x.trans ⟨fun _ _ _ => rfl, fun q' k z w => by rw [gl_sl, if_neg (fun e => by omega)]⟩
theorem c_X8_reckon {d b : Nat} {Q : Option AV → AH → Prop} {h : AH} {op x z : Int} (hx : Bv x) (hz : Bv z) (h38 : gi h 0 38 = 0)
    (k : ∀ v h', FM h h' → gl h' = gl h → ((mRaw op x z = some v ∧ gi h' 0 38 = 0) ∨ (mRaw op x z = none ∧ gi h' 0 38 = 1)) → Q (some (vL v)) h') : WM GM d b mX8_reckon [vR (some 0), vI op, vL x, vL z] h Q := by
  refine w_X8_reckon ?_
  have m := mulB hx hz
  have t1 := tdivB (z := z) hx
  have t2 := tmodB (z := z) hx
  refine ⟨fun c => ⟨by omega, k _ _ FM.rfl' rfl (Or.inl ⟨by unfold mRaw; rw [if_pos c], h38⟩)⟩, fun c1 => ⟨fun c => ⟨by omega, k _ _ FM.rfl' rfl (Or.inl ⟨by unfold mRaw; rw [if_neg c1, if_pos c], h38⟩)⟩, fun c2 => ⟨fun c => ⟨m, k _ _ FM.rfl' rfl (Or.inl ⟨by unfold mRaw; rw [if_neg c1, if_neg c2, if_pos c], h38⟩)⟩, fun c3 => ⟨fun c => ⟨fun e h1 e1 => ?_, fun e h1 e1 => ⟨e, t1, ?_⟩⟩, fun c4 => ⟨fun c => ⟨fun e h1 e1 => ?_, fun e h1 e1 => ⟨e, t2, ?_⟩⟩, fun c5 => ⟨fun c => ⟨fun e => ?_, fun e => ?_⟩, fun c6 => ⟨fun c => ⟨fun e => ?_, fun e => ?_⟩, fun c7 => ⟨fun e => ?_, fun e => ?_⟩⟩⟩⟩⟩⟩⟩⟩
  · subst e1
    exact k _ _ FM.rfl'.si rfl (Or.inr ⟨by unfold mRaw; rw [if_neg c1, if_neg c2, if_neg c3, if_pos c, if_pos e], gi_eq⟩)
  · subst e1
    exact k _ _ FM.rfl'.si rfl (Or.inl ⟨by unfold mRaw; rw [if_neg c1, if_neg c2, if_neg c3, if_pos c, if_neg e], gi_eq⟩)
  · subst e1
    exact k _ _ FM.rfl'.si rfl (Or.inr ⟨by unfold mRaw; rw [if_neg c1, if_neg c2, if_neg c3, if_neg c4, if_pos c, if_pos e], gi_eq⟩)
  · subst e1
    exact k _ _ FM.rfl'.si rfl (Or.inl ⟨by unfold mRaw; rw [if_neg c1, if_neg c2, if_neg c3, if_neg c4, if_pos c, if_neg e], gi_eq⟩)
  · exact k _ _ FM.rfl' rfl (Or.inl ⟨by unfold mRaw; rw [if_neg c1, if_neg c2, if_neg c3, if_neg c4, if_neg c5, if_pos c, b2i_f (by omega)], h38⟩)
  · exact k _ _ FM.rfl' rfl (Or.inl ⟨by unfold mRaw; rw [if_neg c1, if_neg c2, if_neg c3, if_neg c4, if_neg c5, if_pos c, b2i_t (by omega)], h38⟩)
  · exact k _ _ FM.rfl' rfl (Or.inl ⟨by unfold mRaw; rw [if_neg c1, if_neg c2, if_neg c3, if_neg c4, if_neg c5, if_neg c6, if_pos c, b2i_f (by omega)], h38⟩)
  · exact k _ _ FM.rfl' rfl (Or.inl ⟨by unfold mRaw; rw [if_neg c1, if_neg c2, if_neg c3, if_neg c4, if_neg c5, if_neg c6, if_pos c, b2i_t (by omega)], h38⟩)
  · exact k _ _ FM.rfl' rfl (Or.inl ⟨by unfold mRaw; rw [if_neg c1, if_neg c2, if_neg c3, if_neg c4, if_neg c5, if_neg c6, if_neg c7]; first | rw [b2i_t (by omega)] | rw [b2i_f (by omega)], h38⟩)
  · exact k _ _ FM.rfl' rfl (Or.inl ⟨by unfold mRaw; rw [if_neg c1, if_neg c2, if_neg c3, if_neg c4, if_neg c5, if_neg c6, if_neg c7]; first | rw [b2i_t (by omega)] | rw [b2i_f (by omega)], h38⟩)
/-- the pile of values in the reference's array, the latest first -/
def StkM (h : AH) (st : List Int) : Prop := ∀ j : Nat, j < st.length → gl h 20 ((st.length : Int) - 1 - j) = st.getD j 0
theorem StkM.push {h h' : AH} {st : List Int} {v : Int} (H : StkM h st) (e : ∀ i : Int, 0 ≤ i → i < st.length → gl h' 20 i = gl h 20 i) (ev : gl h' 20 st.length = v) : StkM h' (v :: st) := by
  intro j hj
  rw [List.length_cons] at hj ⊢
  match j, hj with
  | 0, _ =>
    rw [show ((st.length + 1 : Nat) : Int) - 1 - (0 : Nat) = st.length by omega, ev]
    rfl
  | j + 1, hj =>
    rw [show ((st.length + 1 : Nat) : Int) - 1 - ((j + 1 : Nat) : Int) = (st.length : Int) - 1 - j by omega, e _ (by omega) (by omega), H j (by omega)]
    rfl
theorem StkM.pop {h : AH} {st : List Int} {v : Int} (H : StkM h (v :: st)) : StkM h st := by
  intro j hj
  have := H (j + 1) (by rw [List.length_cons]; omega)
  rw [List.length_cons, show ((st.length + 1 : Nat) : Int) - 1 - ((j + 1 : Nat) : Int) = (st.length : Int) - 1 - j by omega] at this
  rw [this]
  rfl
theorem StkM.top {h : AH} {st : List Int} {v : Int} (H : StkM h (v :: st)) : gl h 20 st.length = v := by
  have := H 0 (by rw [List.length_cons]; omega)
  rw [List.length_cons, show ((st.length + 1 : Nat) : Int) - 1 - ((0 : Nat) : Int) = (st.length : Int) by omega] at this
  rw [this]
  rfl
theorem StkM.bot {h : AH} {st : List Int} (H : StkM h st) (hl : 0 < st.length) : gl h 20 0 = st.getD (st.length - 1) 0 := by
  have := H (st.length - 1) (by omega)
  rwa [show (st.length : Int) - 1 - ((st.length - 1 : Nat) : Int) = 0 by omega] at this
theorem StkM.fm {h h' : AH} {st : List Int} (H : StkM h st) (e : gl h' = gl h) : StkM h' st := by
  intro j hj
  rw [e]
  exact H j hj
/-- where code stands, and what its leaves are: of laws, of orders -/
def ModM (h0 : AH) (op arg leaf : Int → Int) : Prop :=
  (gi h0 0 20 = 0 ∧ 0 ≤ gi h0 0 34 ∧ gi h0 0 34 ≤ 4640 ∧ ∀ k, 0 ≤ k → k < 400 → op k = gi h0 2 (gi h0 0 34 + 98 + 2 * k) ∧ arg k = gi h0 2 (gi h0 0 34 + 98 + 2 * k + 1) ∧ 0 ≤ op k ∧ (op k < 20 → op k < 13 ∧ leaf k = if op k = 0 then arg k else gl h0 18 (op k))) ∨
  (gi h0 0 20 = 1 ∧ 0 ≤ gi h0 2 1 ∧ gi h0 2 1 ≤ 8 ∧ ∀ k, 0 ≤ k → k < 400 → op k = gi h0 11 k ∧ arg k = gi h0 12 k ∧ 0 ≤ op k ∧ (op k < 20 → op k < 8 ∧ leaf k = if op k = 0 then arg k else if op k < 5 then gl h0 19 (op k) else if 0 ≤ arg k ∧ arg k < gi h0 2 1 then (if op k = 5 then gi h0 2 (15 + arg k) else if op k = 6 then gi h0 2 (7 + arg k) else gi h0 2 (23 + arg k)) else if op k < 7 then -1 else 0))
theorem lp_push {d b : Nat} {Q : Option AV → AH → Prop} {h : AH} {last n k o a v : Int} (ho : ¬ 20 ≤ o ∧ 0 ≤ o) (hn : 0 ≤ n ∧ n < 400)
    (hv : (gi h 0 20 = 0 ∧ o < 13 ∧ v = if o = 0 then a else gl h 18 o) ∨ (gi h 0 20 = 1 ∧ 0 ≤ gi h 2 1 ∧ gi h 2 1 ≤ 8 ∧ o < 8 ∧ v = if o = 0 then a else if o < 5 then gl h 19 o else if 0 ≤ a ∧ a < gi h 2 1 then (if o = 5 then gi h 2 (15 + a) else if o = 6 then gi h 2 (7 + a) else gi h 2 (23 + a)) else if o < 7 then -1 else 0))
    (q : Lp_X8_reckonAll_10 d b Q last (n + 1) k (sl h 20 n v)) : Lp_X8_reckonAll_100 d b Q last n k o a h := by
  refine l_X8_reckonAll_100 ⟨fun c => absurd c ho.1, fun _ => ⟨fun c => ⟨hn, fun h1 e1 => ⟨by omega, ?_⟩⟩, fun c => ⟨fun c1 => ⟨by omega, hn, fun h1 e1 => ⟨by omega, ?_⟩⟩, fun c1 => ⟨fun c2 => ⟨fun c3 => ⟨by omega, fun c4 => ⟨by omega, by omega, hn, fun h1 e1 => ⟨by omega, ?_⟩⟩, fun c4 => ⟨hn, fun h1 e1 => ⟨by omega, ?_⟩⟩⟩, fun c3 => ⟨fun c5 => ⟨by omega, fun c4 => ⟨by omega, by omega, hn, fun h1 e1 => ⟨by omega, ?_⟩⟩, fun c4 => ⟨hn, fun h1 e1 => ⟨by omega, ?_⟩⟩⟩, fun c5 => ⟨by omega, fun c4 => ⟨by omega, by omega, hn, fun h1 e1 => ⟨by omega, ?_⟩⟩, fun c4 => ⟨hn, fun h1 e1 => ⟨by omega, ?_⟩⟩⟩⟩⟩, fun c2 => ⟨by omega, hn, fun h1 e1 => ⟨by omega, ?_⟩⟩⟩⟩⟩⟩
  · subst e1
    rcases hv with ⟨g1, g2, g3⟩ | ⟨g1, g2, g3, g4, g5⟩
    · rw [if_pos c] at g3
      subst g3
      exact q
    · rw [if_pos c] at g5
      subst g5
      exact q
  · subst e1
    rcases hv with ⟨g1, g2, g3⟩ | ⟨g1, g2, g3, g4, g5⟩
    · rw [if_neg c] at g3
      subst g3
      exact q
    · omega
  · subst e1
    rcases hv with ⟨g1, g2, g3⟩ | ⟨g1, g2, g3, g4, g5⟩
    · omega
    · rw [if_neg c, if_neg (by omega), if_pos c4, if_pos c3] at g5
      subst g5
      exact q
  · subst e1
    rcases hv with ⟨g1, g2, g3⟩ | ⟨g1, g2, g3, g4, g5⟩
    · omega
    · rw [if_neg c, if_neg (by omega), if_neg c4, if_pos (by omega)] at g5
      subst g5
      exact q
  · subst e1
    rcases hv with ⟨g1, g2, g3⟩ | ⟨g1, g2, g3, g4, g5⟩
    · omega
    · rw [if_neg c, if_neg (by omega), if_pos c4, if_neg c3, if_pos c5] at g5
      subst g5
      exact q
  · subst e1
    rcases hv with ⟨g1, g2, g3⟩ | ⟨g1, g2, g3, g4, g5⟩
    · omega
    · rw [if_neg c, if_neg (by omega), if_neg c4, if_pos (by omega)] at g5
      subst g5
      exact q
  · subst e1
    rcases hv with ⟨g1, g2, g3⟩ | ⟨g1, g2, g3, g4, g5⟩
    · omega
    · rw [if_neg c, if_neg (by omega), if_pos c4, if_neg c3, if_neg c5] at g5
      subst g5
      exact q
  · subst e1
    rcases hv with ⟨g1, g2, g3⟩ | ⟨g1, g2, g3, g4, g5⟩
    · omega
    · rw [if_neg c, if_neg (by omega), if_neg c4, if_neg (by omega)] at g5
      subst g5
      exact q
  · subst e1
    rcases hv with ⟨g1, g2, g3⟩ | ⟨g1, g2, g3, g4, g5⟩
    · omega
    · rw [if_neg c, if_pos (by omega)] at g5
      subst g5
      exact q
