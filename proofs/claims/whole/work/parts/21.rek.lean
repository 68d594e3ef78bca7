/-! how the reference reckons its code -/
def mRaw (op a b : Int) : Option Int := if op = 20 then some (a + b) else if op = 21 then some (a - b) else if op = 22 then some (a * b) else if op = 23 then (if b = 0 then none else some (a.tdiv b)) else if op = 24 then (if b = 0 then none else some (a.tmod b)) else if op = 25 then some (b2i (a < b)) else if op = 26 then some (b2i (b < a)) else some (b2i (a = b))
theorem mRe_raw (op a b : Int) : mRe op a b = (match mRaw op a b with
  | none => none
  | some v => if -1000000000 ≤ v ∧ v ≤ 1000000000 then some v else none) := rfl
/-- values while code is reckoned -/
abbrev Bv (x : Int) : Prop := -1000000000 ≤ x ∧ x ≤ 1000000001
theorem mulB {x z : Int} (hx : Bv x) (hz : Bv z) : R64 (x * z) := by
  have h1 : x.natAbs ≤ 1000000001 := by omega
  have h2 : z.natAbs ≤ 1000000001 := by omega
  have h3 : (x * z).natAbs ≤ 1000000001 * 1000000001 := by rw [Int.natAbs_mul]; exact Nat.mul_le_mul h1 h2
  omega
theorem tdivB {x z : Int} (hx : Bv x) : R64 (x.tdiv z) := by
  have h1 : x.natAbs ≤ 1000000001 := by omega
  have h3 : (x.tdiv z).natAbs ≤ x.natAbs := by rw [Int.natAbs_tdiv]; exact Nat.div_le_self _ _
  omega
theorem tmodB {x z : Int} (hx : Bv x) : R64 (x.tmod z) := by
  have h1 : x.natAbs ≤ 1000000001 := by omega
  have h3 : (x.tmod z).natAbs ≤ x.natAbs := by rw [Int.natAbs_tmod]; exact Nat.mod_le _ _
  omega
/-- what reckoning may change -/
def FM (h0 h : AH) : Prop := (∀ q k, ¬ (q = 0 ∧ k = 38) → gi h q k = gi h0 q k) ∧ ∀ q k, q ≠ 20 → ¬ (q = 0 ∧ (k = 39 ∨ k = 40)) → gl h q k = gl h0 q k
theorem FM.rfl' {h : AH} : FM h h := ⟨fun _ _ _ => rfl, fun _ _ _ _ => rfl⟩
theorem FM.trans {a b c : AH} (x : FM a b) (y : FM b c) : FM a c := ⟨fun q k z => (y.1 q k z).trans (x.1 q k z), fun q k z w => (y.2 q k z w).trans (x.2 q k z w)⟩
theorem FM.si {a b : AH} (x : FM a b) {v : Int} : FM a (si b 0 38 v) := x.trans ⟨fun q k z => by rw [gi_si, if_neg z], fun _ _ _ _ => rfl⟩
theorem FM.sl {a b : AH} (x : FM a b) {q : Nat} {i v : Int} (h : q = 20 ∨ (q = 0 ∧ (i = 39 ∨ i = 40))) : FM a (sl b q i v) := x.trans ⟨fun _ _ _ => rfl, fun q' k z w => by rw [gl_sl, if_neg (fun e => by omega)]⟩
theorem c_X8_reckon {d b : Nat} {Q : Option AV → AH → Prop} {h : AH} {op x z : Int} (hx : Bv x) (hz : Bv z) (h38 : gi h 0 38 = 0)
    (k : ∀ v h', FM h h' → gl h' = gl h → ((mRaw op x z = some v ∧ gi h' 0 38 = 0) ∨ (mRaw op x z = none ∧ gi h' 0 38 = 1)) → Q (some (vL v)) h') : WM GM d b mX8_reckon [vR (some 0), vI op, vL x, vL z] h Q := by
  refine w_X8_reckon ?_
  have m := mulB hx hz
  have t1 := tdivB (z := z) hx
  have t2 := tmodB (z := z) hx
  refine ⟨fun c => ⟨by omega, k _ _ FM.rfl' rfl (Or.inl ⟨by unfold mRaw; rw [if_pos c], h38⟩)⟩, fun c1 => ⟨fun c => ⟨by omega, k _ _ FM.rfl' rfl (Or.inl ⟨by unfold mRaw; rw [if_neg c1, if_pos c], h38⟩)⟩, fun c2 => ⟨fun c => ⟨m, k _ _ FM.rfl' rfl (Or.inl ⟨by unfold mRaw; rw [if_neg c1, if_neg c2, if_pos c], h38⟩)⟩, fun c3 => ⟨fun c => ⟨fun e h1 e1 => ?_, fun e h1 e1 => ⟨e, t1, ?_⟩⟩, fun c4 => ⟨fun c => ⟨fun e h1 e1 => ?_, fun e h1 e1 => ⟨e, t2, ?_⟩⟩, fun c5 => ⟨fun c => ⟨fun e => ?_, fun e => ?_⟩, fun c6 => ⟨fun c => ⟨fun e => ?_, fun e => ?_⟩, fun c7 => ⟨fun e => ?_, fun e => ?_⟩⟩⟩⟩⟩⟩⟩⟩
  · subst e1
    exact k _ _ FM.rfl'.si rfl (Or.inr ⟨by unfold mRaw; rw [if_neg c1, if_neg c2, if_neg c3, if_pos c, if_pos e], gi_eq⟩)
  · subst e1
    exact k _ _ FM.rfl'.si rfl (Or.inl ⟨by unfold mRaw; rw [if_neg c1, if_neg c2, if_neg c3, if_pos c, if_neg e], gi_eq⟩)
  · subst e1
    exact k _ _ FM.rfl'.si rfl (Or.inr ⟨by unfold mRaw; rw [if_neg c1, if_neg c2, if_neg c3, if_neg c4, if_pos c, if_pos e], gi_eq⟩)
  · subst e1
    exact k _ _ FM.rfl'.si rfl (Or.inl ⟨by unfold mRaw; rw [if_neg c1, if_neg c2, if_neg c3, if_neg c4, if_pos c, if_neg e], gi_eq⟩)
  · exact k _ _ FM.rfl' rfl (Or.inl ⟨by unfold mRaw; rw [if_neg c1, if_neg c2, if_neg c3, if_neg c4, if_neg c5, if_pos c, b2i_f (by omega)], h38⟩)
  · exact k _ _ FM.rfl' rfl (Or.inl ⟨by unfold mRaw; rw [if_neg c1, if_neg c2, if_neg c3, if_neg c4, if_neg c5, if_pos c, b2i_t (by omega)], h38⟩)
  · exact k _ _ FM.rfl' rfl (Or.inl ⟨by unfold mRaw; rw [if_neg c1, if_neg c2, if_neg c3, if_neg c4, if_neg c5, if_neg c6, if_pos c, b2i_f (by omega)], h38⟩)
  · exact k _ _ FM.rfl' rfl (Or.inl ⟨by unfold mRaw; rw [if_neg c1, if_neg c2, if_neg c3, if_neg c4, if_neg c5, if_neg c6, if_pos c, b2i_t (by omega)], h38⟩)
  · exact k _ _ FM.rfl' rfl (Or.inl ⟨by unfold mRaw; rw [if_neg c1, if_neg c2, if_neg c3, if_neg c4, if_neg c5, if_neg c6, if_neg c7]; first | rw [b2i_t (by omega)] | rw [b2i_f (by omega)], h38⟩)
  · exact k _ _ FM.rfl' rfl (Or.inl ⟨by unfold mRaw; rw [if_neg c1, if_neg c2, if_neg c3, if_neg c4, if_neg c5, if_neg c6, if_neg c7]; first | rw [b2i_t (by omega)] | rw [b2i_f (by omega)], h38⟩)
/-- the pile of values in the reference's array, the latest first -/
def StkM (h : AH) (st : List Int) : Prop := ∀ j : Nat, j < st.length → gl h 20 ((st.length : Int) - 1 - j) = st.getD j 0
theorem StkM.push {h h' : AH} {st : List Int} {v : Int} (H : StkM h st) (e : ∀ i : Int, 0 ≤ i → i < st.length → gl h' 20 i = gl h 20 i) (ev : gl h' 20 st.length = v) : StkM h' (v :: st) := by
  intro j hj
  rw [List.length_cons] at hj ⊢
  match j, hj with
  | 0, _ =>
    rw [show ((st.length + 1 : Nat) : Int) - 1 - (0 : Nat) = st.length by omega, ev]
    rfl
  | j + 1, hj =>
    rw [show ((st.length + 1 : Nat) : Int) - 1 - ((j + 1 : Nat) : Int) = (st.length : Int) - 1 - j by omega, e _ (by omega) (by omega), H j (by omega)]
    rfl
theorem StkM.pop {h : AH} {st : List Int} {v : Int} (H : StkM h (v :: st)) : StkM h st := by
  intro j hj
  have := H (j + 1) (by rw [List.length_cons]; omega)
  rw [List.length_cons, show ((st.length + 1 : Nat) : Int) - 1 - ((j + 1 : Nat) : Int) = (st.length : Int) - 1 - j by omega] at this
  rw [this]
  rfl
theorem StkM.top {h : AH} {st : List Int} {v : Int} (H : StkM h (v :: st)) : gl h 20 st.length = v := by
  have := H 0 (by rw [List.length_cons]; omega)
  rw [List.length_cons, show ((st.length + 1 : Nat) : Int) - 1 - ((0 : Nat) : Int) = (st.length : Int) by omega] at this
  rw [this]
  rfl
theorem StkM.bot {h : AH} {st : List Int} (H : StkM h st) (hl : 0 < st.length) : gl h 20 0 = st.getD (st.length - 1) 0 := by
  have := H (st.length - 1) (by omega)
  rwa [show (st.length : Int) - 1 - ((st.length - 1 : Nat) : Int) = 0 by omega] at this
theorem StkM.fm {h h' : AH} {st : List Int} (H : StkM h st) (e : gl h' = gl h) : StkM h' st := by
  intro j hj
  rw [e]
  exact H j hj
/-- where code stands, and what its leaves are: of laws, of orders -/
def ModM (h0 : AH) (op arg leaf : Int → Int) : Prop :=
  (gi h0 0 20 = 0 ∧ 0 ≤ gi h0 0 34 ∧ gi h0 0 34 ≤ 4640 ∧ ∀ k, 0 ≤ k → k < 400 → op k = gi h0 2 (gi h0 0 34 + 98 + 2 * k) ∧ arg k = gi h0 2 (gi h0 0 34 + 98 + 2 * k + 1) ∧ 0 ≤ op k ∧ (op k < 20 → op k < 13 ∧ leaf k = if op k = 0 then arg k else gl h0 18 (op k))) ∨
  (gi h0 0 20 = 1 ∧ 0 ≤ gi h0 2 1 ∧ gi h0 2 1 ≤ 8 ∧ ∀ k, 0 ≤ k → k < 400 → op k = gi h0 11 k ∧ arg k = gi h0 12 k ∧ 0 ≤ op k ∧ (op k < 20 → op k < 8 ∧ leaf k = if op k = 0 then arg k else if op k < 5 then gl h0 19 (op k) else if 0 ≤ arg k ∧ arg k < gi h0 2 1 then (if op k = 5 then gi h0 2 (15 + arg k) else if op k = 6 then gi h0 2 (7 + arg k) else gi h0 2 (23 + arg k)) else if op k < 7 then -1 else 0))
theorem lp_push {d b : Nat} {Q : Option AV → AH → Prop} {h : AH} {last n k o a v : Int} (ho : ¬ 20 ≤ o ∧ 0 ≤ o) (hn : 0 ≤ n ∧ n < 400)
    (hv : (gi h 0 20 = 0 ∧ o < 13 ∧ v = if o = 0 then a else gl h 18 o) ∨ (gi h 0 20 = 1 ∧ 0 ≤ gi h 2 1 ∧ gi h 2 1 ≤ 8 ∧ o < 8 ∧ v = if o = 0 then a else if o < 5 then gl h 19 o else if 0 ≤ a ∧ a < gi h 2 1 then (if o = 5 then gi h 2 (15 + a) else if o = 6 then gi h 2 (7 + a) else gi h 2 (23 + a)) else if o < 7 then -1 else 0))
    (q : Lp_X8_reckonAll_10 d b Q last (n + 1) k (sl h 20 n v)) : Lp_X8_reckonAll_100 d b Q last n k o a h := by
  refine l_X8_reckonAll_100 ⟨fun c => absurd c ho.1, fun _ => ⟨fun c => ⟨hn, fun h1 e1 => ⟨by omega, ?_⟩⟩, fun c => ⟨fun c1 => ⟨by omega, hn, fun h1 e1 => ⟨by omega, ?_⟩⟩, fun c1 => ⟨fun c2 => ⟨fun c3 => ⟨by omega, fun c4 => ⟨by omega, by omega, hn, fun h1 e1 => ⟨by omega, ?_⟩⟩, fun c4 => ⟨hn, fun h1 e1 => ⟨by omega, ?_⟩⟩⟩, fun c3 => ⟨fun c5 => ⟨by omega, fun c4 => ⟨by omega, by omega, hn, fun h1 e1 => ⟨by omega, ?_⟩⟩, fun c4 => ⟨hn, fun h1 e1 => ⟨by omega, ?_⟩⟩⟩, fun c5 => ⟨by omega, fun c4 => ⟨by omega, by omega, hn, fun h1 e1 => ⟨by omega, ?_⟩⟩, fun c4 => ⟨hn, fun h1 e1 => ⟨by omega, ?_⟩⟩⟩⟩⟩, fun c2 => ⟨by omega, hn, fun h1 e1 => ⟨by omega, ?_⟩⟩⟩⟩⟩⟩
  · subst e1
    rcases hv with ⟨g1, g2, g3⟩ | ⟨g1, g2, g3, g4, g5⟩
    · rw [if_pos c] at g3
      subst g3
      exact q
    · rw [if_pos c] at g5
      subst g5
      exact q
  · subst e1
    rcases hv with ⟨g1, g2, g3⟩ | ⟨g1, g2, g3, g4, g5⟩
    · rw [if_neg c] at g3
      subst g3
      exact q
    · omega
  · subst e1
    rcases hv with ⟨g1, g2, g3⟩ | ⟨g1, g2, g3, g4, g5⟩
    · omega
    · rw [if_neg c, if_neg (by omega), if_pos c4, if_pos c3] at g5
      subst g5
      exact q
  · subst e1
    rcases hv with ⟨g1, g2, g3⟩ | ⟨g1, g2, g3, g4, g5⟩
    · omega
    · rw [if_neg c, if_neg (by omega), if_neg c4, if_pos (by omega)] at g5
      subst g5
      exact q
  · subst e1
    rcases hv with ⟨g1, g2, g3⟩ | ⟨g1, g2, g3, g4, g5⟩
    · omega
    · rw [if_neg c, if_neg (by omega), if_pos c4, if_neg c3, if_pos c5] at g5
      subst g5
      exact q
  · subst e1
    rcases hv with ⟨g1, g2, g3⟩ | ⟨g1, g2, g3, g4, g5⟩
    · omega
    · rw [if_neg c, if_neg (by omega), if_neg c4, if_pos (by omega)] at g5
      subst g5
      exact q
  · subst e1
    rcases hv with ⟨g1, g2, g3⟩ | ⟨g1, g2, g3, g4, g5⟩
    · omega
    · rw [if_neg c, if_neg (by omega), if_pos c4, if_neg c3, if_neg c5] at g5
      subst g5
      exact q
  · subst e1
    rcases hv with ⟨g1, g2, g3⟩ | ⟨g1, g2, g3, g4, g5⟩
    · omega
    · rw [if_neg c, if_neg (by omega), if_neg c4, if_neg (by omega)] at g5
      subst g5
      exact q
  · subst e1
    rcases hv with ⟨g1, g2, g3⟩ | ⟨g1, g2, g3, g4, g5⟩
    · omega
    · rw [if_neg c, if_pos (by omega)] at g5
      subst g5
      exact q
theorem lp_rek {d b : Nat} {Q : Option AV → AH → Prop} {op arg leaf : Int → Int} {h0 : AH} {last : Int} (hm : ModM h0 op arg leaf) (hb : ∀ k, 0 ≤ k → k < 400 → op k < 20 → -1000000000 ≤ leaf k ∧ leaf k ≤ 1000000000) (hl : last ≤ 400) {res : Option (List Int)}
    (kQ : ∀ h', FM h0 h' → ((∃ s', res = some s' ∧ gi h' 0 38 = 0 ∧ gl h' 0 39 = s'.getD (s'.length - 1) 0) ∨ (res = none ∧ gi h' 0 38 = 1)) → Q none h') :
    ∀ (n : Nat) (k : Int) (st : List Int) (h : AH), mEv op arg leaf last n k st = some res → st.length + n ≤ 400 → FM h0 h → gi h 0 38 = 0 → StkM h st → (∀ x ∈ st, Bv x) → Lp_X8_reckonAll_10 d b Q last st.length k h := by
  intro n
  induction n with
  | zero => intro k st h hE; simp [mEv] at hE
  | succ n ih =>
    intro k st h hE hlen hF h38 hS hB
    unfold mEv at hE
    by_cases k0 : k < 0
    · rw [if_pos k0] at hE; simp at hE
    rw [if_neg k0] at hE
    by_cases kl : k < last
    · rw [if_pos kl] at hE
      have h20 : gi h 0 20 = gi h0 0 20 := hF.1 _ _ (by omega)
      have h34 : gi h 0 34 = gi h0 0 34 := hF.1 _ _ (by omega)
      have hr : ∀ j, gi h 2 j = gi h0 2 j := fun j => hF.1 _ _ (by omega)
      have C : Lp_X8_reckonAll_100 d b Q last st.length (k + 1) (op k) (arg k) h := by
        by_cases o20 : op k < 20
        · rw [if_pos o20] at hE
          have bl := hb k (by omega) (by omega) o20
          refine lp_push (v := leaf k) ⟨by omega, ?_⟩ ⟨by omega, by omega⟩ ?_ ?_
          · rcases hm with ⟨-, -, -, m4⟩ | ⟨-, -, -, m4⟩
            · exact (m4 k (by omega) (by omega)).2.2.1
            · exact (m4 k (by omega) (by omega)).2.2.1
          · rcases hm with ⟨m1, -, -, m4⟩ | ⟨m1, m2, m3, m4⟩
            · obtain ⟨-, -, -, q4⟩ := m4 k (by omega) (by omega)
              obtain ⟨q5, q6⟩ := q4 o20
              exact Or.inl ⟨by omega, q5, by rw [q6, hF.2 18 (op k) (by decide) (by omega)]⟩
            · obtain ⟨-, -, -, q4⟩ := m4 k (by omega) (by omega)
              obtain ⟨q5, q6⟩ := q4 o20
              exact Or.inr ⟨by omega, by rw [hr]; exact m2, by rw [hr]; exact m3, q5, by rw [q6, hF.2 19 (op k) (by decide) (by omega)]; simp only [hr]⟩
          · have := ih (k + 1) (leaf k :: st) (sl h 20 st.length (leaf k)) hE (by rw [List.length_cons]; omega) (hF.sl (Or.inl rfl)) h38 (hS.push (fun i i0 i1 => gl_nk (by omega)) gl_eq) (List.forall_mem_cons.mpr ⟨⟨bl.1, by omega⟩, hB⟩)
            rwa [List.length_cons, Int.natCast_succ] at this
        rw [if_neg o20] at hE
        by_cases o28 : op k < 28
        · rw [if_pos o28] at hE
          match st, hE, hlen, hS, hB with
          | [], hE, _, _, _ => simp at hE
          | [x], hE, _, _, _ => simp at hE
          | z :: x :: r, hE, hlen, hS, hB =>
            dsimp only at hE
            rw [List.length_cons, List.length_cons] at hlen
            have tz := hS.top
            have tx := hS.pop.top
            rw [List.length_cons, Int.natCast_succ] at tz
            have bz : Bv z := hB z List.mem_cons_self
            have bx : Bv x := hB x (List.mem_cons_of_mem _ List.mem_cons_self)
            have e1 : (((z :: x :: r).length : Nat) : Int) = (r.length : Int) + 1 + 1 := by rw [List.length_cons, List.length_cons]; omega
            rw [e1]
            refine l_X8_reckonAll_100 ⟨fun _ => ⟨fun c => by omega, fun _ => ⟨by omega, by omega, by omega, by omega, by omega, ?_⟩⟩, fun c => by omega⟩
            rw [show (r.length : Int) + 1 + 1 + -1 - 1 = r.length by omega, show (r.length : Int) + 1 + 1 + -1 = r.length + 1 by omega, tz, tx]
            refine c_X8_reckon bx bz h38 (fun v h' f1 f2 f3 => ⟨v, rfl, by omega, fun h3 e3 => ?_⟩)
            subst e3
            have g39 : gi (sl h' 20 (r.length : Int) v) 0 38 = gi h' 0 38 := rfl
            have stp : StkM (sl h' 20 (r.length : Int) v) (v :: r) := StkM.push (h := h) hS.pop.pop (fun i i0 i1 => by rw [gl_nk (by omega), f2]) gl_eq
            have fin : ∀ w : Int, FM h0 (si (sl h' 20 (r.length : Int) v) 0 38 w) := fun w => ((hF.trans f1).sl (Or.inl rfl)).si
            have done1 : mRe (op k) x z = none → Lp_X8_reckonAll_10 d b Q last (r.length + 1) (k + 1) (si (sl h' 20 (r.length : Int) v) 0 38 1) := fun e => by
              rw [e] at hE
              have er : res = none := by simpa using hE.symm
              refine l_X8_reckonAll_10 ⟨fun c => ⟨fun c1 h1 e1 => ?_, fun c1 h1 e1 => ?_⟩, fun c => ⟨fun c1 => absurd c1 (by rw [gi_eq]; decide), fun c1 => ⟨fun c2 h1 e1 => ?_, fun c2 h1 e1 => ?_⟩⟩⟩
              all_goals subst e1
              all_goals exact kQ _ ((fin 1).sl (Or.inr ⟨rfl, Or.inl rfl⟩)) (Or.inr ⟨er, show gi (si (sl h' 20 (r.length : Int) v) 0 38 1) 0 38 = 1 from gi_eq⟩)
            rw [mRe_raw] at done1 hE
            rcases f3 with ⟨f3, f4⟩ | ⟨f3, f4⟩
            · rw [f3] at hE done1
              dsimp only at hE done1
              refine ⟨fun _ => ⟨by omega, by omega, fun c h5 e5 => ?_, fun c h5 e5 => ?_⟩, fun c => absurd f4 c⟩
              · subst e5
                rw [if_pos c] at hE
                have := ih (k + 1) (v :: r) (si (sl h' 20 (r.length : Int) v) 0 38 0) hE (by rw [List.length_cons]; omega) (fin 0) gi_eq (stp.fm rfl) (List.forall_mem_cons.mpr ⟨⟨c.1, by omega⟩, fun y hy => hB y (List.mem_cons_of_mem _ (List.mem_cons_of_mem _ hy))⟩)
                rwa [List.length_cons, Int.natCast_succ] at this
              · subst e5
                exact done1 (if_neg c)
            · rw [f3] at done1
              refine ⟨fun c => by omega, fun c h5 e5 => ?_⟩
              subst e5
              exact done1 rfl
        rw [if_neg o28] at hE
        match st, hE, hlen, hS, hB with
        | [], hE, _, _, _ => by_cases c : op k = 28 <;> simp [c] at hE
        | x :: r, hE, hlen, hS, hB =>
          rw [List.length_cons] at hlen
          have tx := hS.top
          have bx : Bv x := hB x List.mem_cons_self
          have e1 : (((x :: r).length : Nat) : Int) = (r.length : Int) + 1 := by rw [List.length_cons]; omega
          rw [e1]
          refine l_X8_reckonAll_100 ⟨fun _ => ⟨fun _ => ⟨fun c => ⟨by omega, by omega, by omega, ?_⟩, fun c => ⟨by omega, by omega, fun c2 => ⟨fun c3 => ?_, fun c3 => ⟨by omega, ?_⟩⟩, fun c2 => ⟨fun c3 => ?_, fun c3 => ⟨by omega, ?_⟩⟩⟩⟩, fun c => by omega⟩, fun c => by omega⟩
          · rw [if_pos c] at hE
            rw [show (r.length : Int) + 1 - 1 = r.length by omega, tx]
            refine ⟨by omega, by omega, fun h1 e => ?_⟩
            subst e
            have := ih (k + 1) ((1 - x) :: r) (sl h 20 (r.length : Int) (1 - x)) hE (by rw [List.length_cons]; omega) (hF.sl (Or.inl rfl)) h38 (StkM.push (h := h) hS.pop (fun i i0 i1 => gl_nk (by omega)) gl_eq) (List.forall_mem_cons.mpr ⟨by omega, fun y hy => hB y (List.mem_cons_of_mem _ hy)⟩)
            rwa [List.length_cons, Int.natCast_succ] at this
          all_goals rw [if_neg c] at hE
          all_goals dsimp only at hE
          all_goals rw [show (r.length : Int) + 1 - 1 = r.length by omega, tx] at c3
          · rw [if_pos c2, if_pos c3] at hE
            have := ih (arg k) (x :: r) h hE (by rw [List.length_cons]; omega) hF h38 hS hB
            rwa [List.length_cons, Int.natCast_succ] at this
          · rw [if_pos c2, if_neg c3] at hE
            rw [show (r.length : Int) + 1 + -1 = r.length by omega]
            exact ih (k + 1) r h hE (by omega) hF h38 hS.pop (fun y hy => hB y (List.mem_cons_of_mem _ hy))
          · rw [if_neg c2, if_pos c3] at hE
            have := ih (arg k) (x :: r) h hE (by rw [List.length_cons]; omega) hF h38 hS hB
            rwa [List.length_cons, Int.natCast_succ] at this
          · rw [if_neg c2, if_neg c3] at hE
            rw [show (r.length : Int) + 1 + -1 = r.length by omega]
            exact ih (k + 1) r h hE (by omega) hF h38 hS.pop (fun y hy => hB y (List.mem_cons_of_mem _ hy))
      refine l_X8_reckonAll_10 ⟨fun c => by omega, fun _ => ⟨fun _ => ?_, fun c => absurd h38 c⟩⟩
      rcases hm with ⟨m1, m2, m3, m4⟩ | ⟨m1, m2, m3, m4⟩
      · obtain ⟨q1, q2, -, -⟩ := m4 k (by omega) (by omega)
        have w1 : gi h 2 (gi h 0 34 + 98 + 2 * k) = op k := by rw [hr, h34, q1]
        have w2 : gi h 2 (gi h 0 34 + 98 + 2 * k + 1) = arg k := by rw [hr, h34, q2]
        refine ⟨fun _ => ⟨by omega, by omega, by omega, by omega, fun _ => ⟨by omega, by omega, by omega, by omega, by omega, by omega, ?_⟩, fun c => absurd (h20.trans m1) c⟩, fun c => absurd (h20.trans m1) c⟩
        rw [w1, w2]
        exact C
      · obtain ⟨q1, q2, -, -⟩ := m4 k (by omega) (by omega)
        have w1 : gi h 11 k = op k := by rw [hF.1 11 k (by omega), q1]
        have w2 : gi h 12 k = arg k := by rw [hF.1 12 k (by omega), q2]
        have nz : ¬ gi h 0 20 = 0 := by omega
        refine ⟨fun c => absurd c nz, fun _ => ⟨by omega, fun c => absurd c nz, fun _ => ⟨by omega, by omega, ?_⟩⟩⟩
        rw [w1, w2]
        exact C
    · rw [if_neg kl] at hE
      have er : res = some st := by simpa using hE.symm
      refine l_X8_reckonAll_10 ⟨fun _ => ⟨fun c1 h1 e1 => ?_, fun c1 h1 e1 => ?_⟩, fun c => by omega⟩
      · subst e1
        have : st = [] := List.eq_nil_of_length_eq_zero (by omega)
        exact kQ _ (hF.sl (Or.inr ⟨rfl, Or.inl rfl⟩)) (Or.inl ⟨st, er, h38, by rw [gl_eq, this]; rfl⟩)
      · subst e1
        exact kQ _ (hF.sl (Or.inr ⟨rfl, Or.inl rfl⟩)) (Or.inl ⟨st, er, h38, by rw [gl_eq, hS.bot (by omega)]⟩)
theorem c_X8_reckonAll {d b : Nat} {Q : Option AV → AH → Prop} {op arg leaf : Int → Int} {h : AH} {k last : Int} (hm : ModM (si h 0 38 0) op arg leaf) (hb : ∀ k, 0 ≤ k → k < 400 → op k < 20 → -1000000000 ≤ leaf k ∧ leaf k ≤ 1000000000) (hl : last ≤ 400) {res : Option (List Int)} (hE : mEv op arg leaf last 400 k [] = some res)
    (kQ : ∀ h', FM h h' → ((∃ s', res = some s' ∧ gi h' 0 38 = 0 ∧ gl h' 0 39 = s'.getD (s'.length - 1) 0) ∨ (res = none ∧ gi h' 0 38 = 1)) → Q none h') : WM GM (d + 2) b mX8_reckonAll [vR (some 0), vI k, vI last] h Q := by
  refine w_X8_reckonAll ?_
  intro h1 e1
  subst e1
  exact lp_rek hm hb hl (fun h' f r => kQ h' (FM.rfl'.si.trans f) r) 400 k [] (si h 0 38 0) hE (by decide) FM.rfl' gi_eq (fun j hj => by cases hj) (fun x hx => by cases hx)
