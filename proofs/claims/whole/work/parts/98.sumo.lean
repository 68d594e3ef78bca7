/-! sums of orders: the draft's steps in the class, code up to its end in the reference -/
theorem lp_valueD {d b : Nat} {Q : Option AV → AH → Prop} {h0 : AH} {t s ns ln : Nat} {m res : Int} (kt : Kd GX h0 t (.inl 5)) (rs : rf h0 t 3 = some s) (ks : Kd GX h0 s (.inr (0, ns))) (hs : s ≠ 40) (ht : t ≠ 40) (len : gi h0 t 2 = ln) (hln : ln ≤ ns) (hns : (ns : Int) ≤ 872)
    (W : WfR m (gi h0 s) 0 ln) (hm : m ≤ 37) (hf : ∀ i, okF m i → -1000000000 ≤ gi h0 39 i ∧ gi h0 39 i ≤ 1000000000) (kQ : ∀ h', VX h0 h' → Q (some (vI res)) h') :
    ∀ (fuel : Nat) (n k : Int) (st : List Int) (h : AH), n + fuel = ln → 0 ≤ n → VX h0 h → k % 2 = 0 → k ≤ 1000000000 → StkX h st → (∀ x ∈ st, Bv x) → st.length ≤ 100 → xEv (gi h0 s) (gi h0 39) ln fuel k st = res → Lp_X1_value_8 d b Q t ((st.length : Int) - 1) k n h
  | 0, n, k, st, h, h1, h2, V, _, _, _, _, _, hE => by
    have e2 : gi h t 2 = ln := (V.1 _ _ (by omega)).trans len
    refine l_X1_value_8 (V.j.kd' kt) ⟨fun _ => ?_, fun c => by omega⟩
    have := kQ h V
    rw [← hE] at this
    exact this
  | fuel + 1, n, k, st, h, h1, h2, V, hev, hk, hS, hB, hL, hE => by
    have e2 : gi h t 2 = ln := (V.1 _ _ (by omega)).trans len
    have brk : res = xBr → Q (some (vI (-2000000000))) h := fun e => by
      have := kQ h V
      rw [e] at this
      exact this
    unfold xEv at hE
    by_cases hA : 0 ≤ k ∧ k + 1 < ln
    rotate_left
    · rw [if_neg hA] at hE
      exact l_X1_value_8 (V.j.kd' kt) ⟨fun c => by omega, fun _ => ⟨fun _ => brk hE.symm, fun c => ⟨by omega, fun _ => brk hE.symm, fun c2 => by omega⟩⟩⟩
    rw [if_pos hA] at hE
    dsimp only at hE
    have rs' : rf h t 3 = some s := by rw [V.2.1]; exact rs
    have ks' := V.j.kd' ks
    refine l_X1_value_8 (V.j.kd' kt) ⟨fun c => by omega, fun _ => ⟨fun c => by omega, fun c => ⟨by omega, fun c2 => by omega, fun c2 => ⟨s, ns, rs', ks', by omega, s, ns, rs', ks', by omega, by omega, by omega, ?_⟩⟩⟩⟩
    have w := W (k / 2) (by omega) (by omega)
    rw [show 2 * (k / 2) = k by omega] at w
    rw [V.1 s k (by omega), V.1 s (k + 1) (by omega)]
    generalize gi h0 s k = step at *
    generalize gi h0 s (k + 1) = told at *
    obtain ⟨w1, w2, w3⟩ := w
    have ih := lp_valueD (d := d) (b := b) (Q := Q) kt rs ks hs ht len hln hns W hm hf kQ fuel
    have C : (step = 1 ∨ step = 2) → ¬ 100 ≤ st.length → xEv (gi h0 s) (gi h0 39) ln fuel (k + 2) ((if step = 1 then told else gi h0 39 told) :: st) = res → Lp_X1_value_100 d b Q t ((st.length : Int) - 1) (k + 2) n step told h := fun c c2 hE => by
      have go : ∀ v, Bv v → xEv (gi h0 s) (gi h0 39) ln fuel (k + 2) (v :: st) = res → Lp_X1_value_8 d b Q t ((st.length : Int) - 1 + 1) (k + 2) (n + 1) (si h 40 ((st.length : Int) - 1 + 1) v) := fun v bv hE => by
        rw [show (st.length : Int) - 1 + 1 = st.length by omega]
        have := ih (n + 1) (k + 2) (v :: st) (si h 40 st.length v) (by omega) (by omega) V.si (by omega) (by omega) (StkX.push hS (fun i i0 i1 => gi_nk (by omega)) gi_eq) (List.forall_mem_cons.mpr ⟨bv, hB⟩) (by rw [List.length_cons]; omega) hE
        rwa [List.length_cons, show ((st.length + 1 : Nat) : Int) - 1 = st.length by omega] at this
      refine l_X1_value_100 (V.j.kd' kt) ⟨by omega, fun c3 => ⟨by omega, fun h2 e2 => ⟨by omega, ?_⟩⟩, fun c3 => ⟨by have := w2 (by omega); omega, by omega, fun h2 e2 => ⟨by omega, ?_⟩⟩⟩
      · subst e2
        rw [if_pos c3] at hE
        exact go told ⟨w1.1, by omega⟩ hE
      · subst e2
        rw [if_neg c3] at hE
        have q := w2 (by omega)
        have f := hf told q
        rw [V.1 39 _ (by decide)]
        exact go _ ⟨f.1, by omega⟩ hE
    by_cases c12 : step = 1 ∨ step = 2
    · rw [if_pos c12] at hE
      by_cases c100 : 100 ≤ st.length ∨ (step = 2 ∧ (told < 0 ∨ 38 ≤ told))
      · rw [if_pos c100] at hE
        have B := brk hE.symm
        refine l_X1_value_56 (V.j.kd' kt) ⟨fun c => ⟨by omega, fun _ => B, fun z => by omega⟩, fun c => ⟨fun c2 => ⟨by omega, fun _ => B, fun z => ⟨fun _ => ⟨fun _ => B, fun z1 => ⟨fun z2 => by omega, fun _ => B⟩⟩, fun z => absurd c2 z⟩⟩, fun z => by omega⟩⟩
      · rw [if_neg c100] at hE
        have L := C c12 (by omega) hE
        refine l_X1_value_56 (V.j.kd' kt) ⟨fun c => ⟨by omega, fun z => by omega, fun z => ⟨fun z => by omega, fun _ => L⟩⟩, fun c => ⟨fun c2 => ⟨by omega, fun z => by omega, fun z => ⟨fun _ => ⟨fun z => by omega, fun z1 => ⟨fun z2 => L, fun z => by omega⟩⟩, fun z => absurd c2 z⟩⟩, fun z => by omega⟩⟩
    rw [if_neg c12] at hE
    refine l_X1_value_56 (V.j.kd' kt) ⟨fun c => absurd (Or.inl c) c12, fun n1 => ⟨fun c => absurd (Or.inr c) c12, fun n2 => ?_⟩⟩
    match st, hE, hS, hB, hL, C with
    | [], hE, hS, hB, hL, _ => exact ⟨fun z => by simp at z, fun _ => brk hE.symm⟩
    | x :: r, hE, hS, hB, hL, _ =>
      dsimp only at hE
      rw [List.length_cons] at hL
      have tx := hS.top
      have bx : Bv x := hB x List.mem_cons_self
      have bB : ∀ y ∈ r, Bv y := fun y hy => hB y (List.mem_cons_of_mem _ hy)
      rw [List.length_cons, show ((r.length + 1 : Nat) : Int) - 1 = r.length by omega]
      have pop : ∀ k', k' % 2 = 0 → k' ≤ 1000000000 → xEv (gi h0 s) (gi h0 39) ln fuel k' r = res → Lp_X1_value_8 d b Q t ((r.length : Int) + -1) k' (n + 1) h := fun k' a1 a2 hE => by
        rw [show (r.length : Int) + -1 = r.length - 1 by omega]
        exact ih (n + 1) k' r h (by omega) (by omega) V a1 a2 hS.pop bB (by omega) hE
      have stay : ∀ k', k' % 2 = 0 → k' ≤ 1000000000 → xEv (gi h0 s) (gi h0 39) ln fuel k' (x :: r) = res → Lp_X1_value_8 d b Q t (r.length : Int) k' (n + 1) h := fun k' a1 a2 hE => by
        have := ih (n + 1) k' (x :: r) h (by omega) (by omega) V a1 a2 hS hB (by rw [List.length_cons]; omega) hE
        rwa [List.length_cons, show ((r.length + 1 : Nat) : Int) - 1 = r.length by omega] at this
      refine ⟨fun _ => ⟨fun c0 => ⟨by omega, ?_⟩, fun d0 => ⟨fun c3 => ⟨by omega, ?_, by omega, fun h3 e3 => ⟨by omega, ?_⟩⟩, fun d3 => ⟨fun c4 => ⟨by omega, fun _ => ⟨fun z => ⟨by omega, ?_⟩, fun z => ⟨by omega, by omega, ?_⟩⟩, fun z => absurd c4 z⟩, fun d4 => ⟨fun c5 => ⟨by omega, fun z => absurd z d4, fun _ => ⟨fun z => ⟨by omega, ?_⟩, fun z => ⟨by omega, by omega, ?_⟩⟩⟩, fun d5 => ⟨fun c1 => ?_, fun c1 => ?_⟩⟩⟩⟩⟩, fun z => by omega⟩
      · rw [if_pos c0] at hE
        rw [tx, hE]
        exact kQ h V
      · rw [tx]
        omega
      · subst e3
        rw [if_neg d0, if_pos c3] at hE
        rw [tx]
        have := ih (n + 1) (k + 2) ((1 - x) :: r) (si h 40 r.length (1 - x)) (by omega) (by omega) V.si (by omega) (by omega) (StkX.push hS.pop (fun i i0 i1 => gi_nk (by omega)) gi_eq) (List.forall_mem_cons.mpr ⟨by omega, bB⟩) (by rw [List.length_cons]; omega) hE
        rwa [List.length_cons, show ((r.length + 1 : Nat) : Int) - 1 = r.length by omega] at this
      · rw [if_neg d0, if_neg d3, if_pos (Or.inl c4), if_pos c4, if_pos (by omega)] at hE
        exact stay told (w3 (Or.inl c4)) w1.2 hE
      · rw [if_neg d0, if_neg d3, if_pos (Or.inl c4), if_pos c4, if_neg (by omega)] at hE
        exact pop (k + 2) (by omega) (by omega) hE
      · rw [if_neg d0, if_neg d3, if_pos (Or.inr c5), if_neg d4, if_pos (by omega)] at hE
        exact stay told (w3 (Or.inr c5)) w1.2 hE
      · rw [if_neg d0, if_neg d3, if_pos (Or.inr c5), if_neg d4, if_neg (by omega)] at hE
        exact pop (k + 2) (by omega) (by omega) hE
      all_goals rw [if_neg d0, if_neg d3, if_neg (by omega)] at hE
      · match r, hE, hS, bB, hL, tx, c1 with
        | [], _, _, _, _, _, c1 => simp at c1
        | z :: q, hE, hS, bB, hL, tx, c1 =>
          dsimp only at hE
          rw [List.length_cons] at hL
          have tz := hS.pop.top
          have bz : Bv z := bB z List.mem_cons_self
          rw [List.length_cons] at tx ⊢
          rw [show ((q.length + 1 : Nat) : Int) + -1 = q.length by omega]
          rw [show ((q.length + 1 : Nat) : Int) = (q.length : Int) + 1 by omega] at tx
          rw [tx, tz]
          refine ⟨by omega, by omega, by omega, by omega, c_X1_joined bz bx ⟨_, rfl, by omega, fun h2 e2 => ⟨by omega, fun c => ?_, fun c => ⟨by omega, ?_⟩⟩⟩⟩
          · subst e2
            rw [if_pos (show xJo step z x = xBr from c)] at hE
            have := kQ (si h 40 q.length (xJo step z x)) V.si
            rw [← hE] at this
            exact this
          · subst e2
            rw [if_neg (show ¬ xJo step z x = xBr from c)] at hE
            have bj := (xJo_bd step z x).resolve_left c
            have := ih (n + 1) (k + 2) (xJo step z x :: q) (si h 40 q.length (xJo step z x)) (by omega) (by omega) V.si (by omega) (by omega) (StkX.push hS.pop.pop (fun i i0 i1 => gi_nk (by omega)) gi_eq) (List.forall_mem_cons.mpr ⟨⟨bj.1, by omega⟩, fun y hy => bB y (List.mem_cons_of_mem _ hy)⟩) (by rw [List.length_cons]; omega) hE
            rwa [List.length_cons, show ((q.length + 1 : Nat) : Int) - 1 = q.length by omega] at this
      · match r, hE, c1 with
        | [], hE, _ => exact brk hE.symm
        | z :: q, _, c1 => exact absurd (by rw [List.length_cons]; omega) c1
theorem c_X1_valueD {d b : Nat} {Q : Option AV → AH → Prop} {h : AH} {t s ns ln : Nat} {m k : Int} (kt : Kd GX h t (.inl 5)) (rs : rf h t 3 = some s) (ks : Kd GX h s (.inr (0, ns))) (hs : s ≠ 40) (ht : t ≠ 40) (len : gi h t 2 = ln) (hln : ln ≤ ns) (hns : (ns : Int) ≤ 872)
    (W : WfR m (gi h s) 0 ln) (hm : m ≤ 37) (hf : ∀ i, okF m i → -1000000000 ≤ gi h 39 i ∧ gi h 39 i ≤ 1000000000) (hk : k % 2 = 0) (hk2 : k ≤ 1000000000) (kQ : ∀ h', VX h h' → Q (some (vI (xEv (gi h s) (gi h 39) ln ln k []))) h') : WM GX (d + 1) b mX1_value [vR (some 38), vR (some t), vI k] h Q := by
  refine w_X1_value kt ?_
  exact lp_valueD kt rs ks hs ht len hln hns W hm hf kQ ln 0 k [] h (by omega) (by omega) VX.rfl' hk hk2 (fun j hj => by cases hj) (fun x hx => by cases hx) (by decide) rfl
/-- code up to last stands in the reference's rows, its leaves are those of orders -/
def ModO (h0 : AH) (op arg leaf : Int → Int) (last : Int) : Prop := gi h0 0 20 = 1 ∧ 0 ≤ gi h0 2 1 ∧ gi h0 2 1 ≤ 8 ∧ ∀ k, 0 ≤ k → k < last → op k = gi h0 11 k ∧ arg k = gi h0 12 k ∧ 0 ≤ op k ∧ (op k < 20 → op k < 8 ∧ leaf k = if op k = 0 then arg k else if op k < 5 then gl h0 19 (op k) else if 0 ≤ arg k ∧ arg k < gi h0 2 1 then (if op k = 5 then gi h0 2 (15 + arg k) else if op k = 6 then gi h0 2 (7 + arg k) else gi h0 2 (23 + arg k)) else if op k < 7 then -1 else 0)
theorem lp_rekL {d b : Nat} {Q : Option AV → AH → Prop} {op arg leaf : Int → Int} {h0 : AH} {last : Int} (hm : ModO h0 op arg leaf last) (hb : ∀ k, 0 ≤ k → k < last → op k < 20 → -1000000000 ≤ leaf k ∧ leaf k ≤ 1000000000) (hl : last ≤ 400) {res : Option (List Int)}
    (kQ : ∀ h', FM h0 h' → ((∃ s', res = some s' ∧ gi h' 0 38 = 0 ∧ gl h' 0 39 = s'.getD (s'.length - 1) 0) ∨ (res = none ∧ gi h' 0 38 = 1)) → Q none h') :
    ∀ (n : Nat) (k : Int) (st : List Int) (h : AH), mEv op arg leaf last n k st = some res → st.length + n ≤ 400 → FM h0 h → gi h 0 38 = 0 → StkM h st → (∀ x ∈ st, Bv x) → Lp_X8_reckonAll_10 d b Q last st.length k h := by
  intro n
  induction n with
  | zero => intro k st h hE; simp [mEv] at hE
  | succ n ih =>
    intro k st h hE hlen hF h38 hS hB
    unfold mEv at hE
    by_cases k0 : k < 0
    · rw [if_pos k0] at hE; simp at hE
    rw [if_neg k0] at hE
    by_cases kl : k < last
    · rw [if_pos kl] at hE
      have h20 : gi h 0 20 = gi h0 0 20 := hF.1 _ _ (by omega)
      have h34 : gi h 0 34 = gi h0 0 34 := hF.1 _ _ (by omega)
      have hr : ∀ j, gi h 2 j = gi h0 2 j := fun j => hF.1 _ _ (by omega)
      have C : Lp_X8_reckonAll_100 d b Q last st.length (k + 1) (op k) (arg k) h := by
        by_cases o20 : op k < 20
        · rw [if_pos o20] at hE
          have bl := hb k (by omega) (by omega) o20
          refine lp_push (v := leaf k) ⟨by omega, ?_⟩ ⟨by omega, by omega⟩ ?_ ?_
          · exact (hm.2.2.2 k (by omega) (by omega)).2.2.1
          · obtain ⟨m1, m2, m3, m4⟩ := hm
            obtain ⟨-, -, -, q4⟩ := m4 k (by omega) (by omega)
            obtain ⟨q5, q6⟩ := q4 o20
            exact Or.inr ⟨by omega, by rw [hr]; exact m2, by rw [hr]; exact m3, q5, by rw [q6, hF.2 19 (op k) (by decide) (by omega)]; simp only [hr]⟩
          · have := ih (k + 1) (leaf k :: st) (sl h 20 st.length (leaf k)) hE (by rw [List.length_cons]; omega) (hF.sl (Or.inl rfl)) h38 (hS.push (fun i i0 i1 => gl_nk (by omega)) gl_eq) (List.forall_mem_cons.mpr ⟨⟨bl.1, by omega⟩, hB⟩)
            rwa [List.length_cons, Int.natCast_succ] at this
        rw [if_neg o20] at hE
        by_cases o28 : op k < 28
        · rw [if_pos o28] at hE
          match st, hE, hlen, hS, hB with
          | [], hE, _, _, _ => simp at hE
          | [x], hE, _, _, _ => simp at hE
          | z :: x :: r, hE, hlen, hS, hB =>
            dsimp only at hE
            rw [List.length_cons, List.length_cons] at hlen
            have tz := hS.top
            have tx := hS.pop.top
            rw [List.length_cons, Int.natCast_succ] at tz
            have bz : Bv z := hB z List.mem_cons_self
            have bx : Bv x := hB x (List.mem_cons_of_mem _ List.mem_cons_self)
            have e1 : (((z :: x :: r).length : Nat) : Int) = (r.length : Int) + 1 + 1 := by rw [List.length_cons, List.length_cons]; omega
            rw [e1]
            refine l_X8_reckonAll_100 ⟨fun _ => ⟨fun c => by omega, fun _ => ⟨by omega, by omega, by omega, by omega, by omega, ?_⟩⟩, fun c => by omega⟩
            rw [show (r.length : Int) + 1 + 1 + -1 - 1 = r.length by omega, show (r.length : Int) + 1 + 1 + -1 = r.length + 1 by omega, tz, tx]
            refine c_X8_reckon bx bz h38 (fun v h' f1 f2 f3 => ⟨v, rfl, by omega, fun h3 e3 => ?_⟩)
            subst e3
            have g39 : gi (sl h' 20 (r.length : Int) v) 0 38 = gi h' 0 38 := rfl
            have stp : StkM (sl h' 20 (r.length : Int) v) (v :: r) := StkM.push (h := h) hS.pop.pop (fun i i0 i1 => by rw [gl_nk (by omega), f2]) gl_eq
            have fin : ∀ w : Int, FM h0 (si (sl h' 20 (r.length : Int) v) 0 38 w) := fun w => ((hF.trans f1).sl (Or.inl rfl)).si
            have done1 : mRe (op k) x z = none → Lp_X8_reckonAll_10 d b Q last (r.length + 1) (k + 1) (si (sl h' 20 (r.length : Int) v) 0 38 1) := fun e => by
              rw [e] at hE
              have er : res = none := by simpa using hE.symm
              refine l_X8_reckonAll_10 ⟨fun c => ⟨fun c1 h1 e1 => ?_, fun c1 h1 e1 => ?_⟩, fun c => ⟨fun c1 => absurd c1 (by rw [gi_eq]; decide), fun c1 => ⟨fun c2 h1 e1 => ?_, fun c2 h1 e1 => ?_⟩⟩⟩
              all_goals subst e1
              all_goals exact kQ _ ((fin 1).sl (Or.inr ⟨rfl, Or.inl rfl⟩)) (Or.inr ⟨er, show gi (si (sl h' 20 (r.length : Int) v) 0 38 1) 0 38 = 1 from gi_eq⟩)
            rw [mRe_raw] at done1 hE
            rcases f3 with ⟨f3, f4⟩ | ⟨f3, f4⟩
            · rw [f3] at hE done1
              dsimp only at hE done1
              refine ⟨fun _ => ⟨by omega, by omega, fun c h5 e5 => ?_, fun c h5 e5 => ?_⟩, fun c => absurd f4 c⟩
              · subst e5
                rw [if_pos c] at hE
                have := ih (k + 1) (v :: r) (si (sl h' 20 (r.length : Int) v) 0 38 0) hE (by rw [List.length_cons]; omega) (fin 0) gi_eq (stp.fm rfl) (List.forall_mem_cons.mpr ⟨⟨c.1, by omega⟩, fun y hy => hB y (List.mem_cons_of_mem _ (List.mem_cons_of_mem _ hy))⟩)
                rwa [List.length_cons, Int.natCast_succ] at this
              · subst e5
                exact done1 (if_neg c)
            · rw [f3] at done1
              refine ⟨fun c => by omega, fun c h5 e5 => ?_⟩
              subst e5
              exact done1 rfl
        rw [if_neg o28] at hE
        match st, hE, hlen, hS, hB with
        | [], hE, _, _, _ => by_cases c : op k = 28 <;> simp [c] at hE
        | x :: r, hE, hlen, hS, hB =>
          rw [List.length_cons] at hlen
          have tx := hS.top
          have bx : Bv x := hB x List.mem_cons_self
          have e1 : (((x :: r).length : Nat) : Int) = (r.length : Int) + 1 := by rw [List.length_cons]; omega
          rw [e1]
          refine l_X8_reckonAll_100 ⟨fun _ => ⟨fun _ => ⟨fun c => ⟨by omega, by omega, by omega, ?_⟩, fun c => ⟨by omega, by omega, fun c2 => ⟨fun c3 => ?_, fun c3 => ⟨by omega, ?_⟩⟩, fun c2 => ⟨fun c3 => ?_, fun c3 => ⟨by omega, ?_⟩⟩⟩⟩, fun c => by omega⟩, fun c => by omega⟩
          · rw [if_pos c] at hE
            rw [show (r.length : Int) + 1 - 1 = r.length by omega, tx]
            refine ⟨by omega, by omega, fun h1 e => ?_⟩
            subst e
            have := ih (k + 1) ((1 - x) :: r) (sl h 20 (r.length : Int) (1 - x)) hE (by rw [List.length_cons]; omega) (hF.sl (Or.inl rfl)) h38 (StkM.push (h := h) hS.pop (fun i i0 i1 => gl_nk (by omega)) gl_eq) (List.forall_mem_cons.mpr ⟨by omega, fun y hy => hB y (List.mem_cons_of_mem _ hy)⟩)
            rwa [List.length_cons, Int.natCast_succ] at this
          all_goals rw [if_neg c] at hE
          all_goals dsimp only at hE
          all_goals rw [show (r.length : Int) + 1 - 1 = r.length by omega, tx] at c3
          · rw [if_pos c2, if_pos c3] at hE
            have := ih (arg k) (x :: r) h hE (by rw [List.length_cons]; omega) hF h38 hS hB
            rwa [List.length_cons, Int.natCast_succ] at this
          · rw [if_pos c2, if_neg c3] at hE
            rw [show (r.length : Int) + 1 + -1 = r.length by omega]
            exact ih (k + 1) r h hE (by omega) hF h38 hS.pop (fun y hy => hB y (List.mem_cons_of_mem _ hy))
          · rw [if_neg c2, if_pos c3] at hE
            have := ih (arg k) (x :: r) h hE (by rw [List.length_cons]; omega) hF h38 hS hB
            rwa [List.length_cons, Int.natCast_succ] at this
          · rw [if_neg c2, if_neg c3] at hE
            rw [show (r.length : Int) + 1 + -1 = r.length by omega]
            exact ih (k + 1) r h hE (by omega) hF h38 hS.pop (fun y hy => hB y (List.mem_cons_of_mem _ hy))
      refine l_X8_reckonAll_10 ⟨fun c => by omega, fun _ => ⟨fun _ => ?_, fun c => absurd h38 c⟩⟩
      obtain ⟨m1, m2, m3, m4⟩ := hm
      obtain ⟨q1, q2, -, -⟩ := m4 k (by omega) (by omega)
      have w1 : gi h 11 k = op k := by rw [hF.1 11 k (by omega), q1]
      have w2 : gi h 12 k = arg k := by rw [hF.1 12 k (by omega), q2]
      have nz : ¬ gi h 0 20 = 0 := by omega
      refine ⟨fun c => absurd c nz, fun _ => ⟨by omega, fun c => absurd c nz, fun _ => ⟨by omega, by omega, ?_⟩⟩⟩
      rw [w1, w2]
      exact C
    · rw [if_neg kl] at hE
      have er : res = some st := by simpa using hE.symm
      refine l_X8_reckonAll_10 ⟨fun _ => ⟨fun c1 h1 e1 => ?_, fun c1 h1 e1 => ?_⟩, fun c => by omega⟩
      · subst e1
        have : st = [] := List.eq_nil_of_length_eq_zero (by omega)
        exact kQ _ (hF.sl (Or.inr ⟨rfl, Or.inl rfl⟩)) (Or.inl ⟨st, er, h38, by rw [gl_eq, this]; rfl⟩)
      · subst e1
        exact kQ _ (hF.sl (Or.inr ⟨rfl, Or.inl rfl⟩)) (Or.inl ⟨st, er, h38, by rw [gl_eq, hS.bot (by omega)]⟩)
theorem c_X8_reckonL {d b : Nat} {Q : Option AV → AH → Prop} {op arg leaf : Int → Int} {h : AH} {k last : Int} (hm : ModO (si h 0 38 0) op arg leaf last) (hb : ∀ k, 0 ≤ k → k < last → op k < 20 → -1000000000 ≤ leaf k ∧ leaf k ≤ 1000000000) (hl : last ≤ 400) {res : Option (List Int)} (hE : mEv op arg leaf last 400 k [] = some res)
    (kQ : ∀ h', FM h h' → ((∃ s', res = some s' ∧ gi h' 0 38 = 0 ∧ gl h' 0 39 = s'.getD (s'.length - 1) 0) ∨ (res = none ∧ gi h' 0 38 = 1)) → Q none h') : WM GM (d + 2) b mX8_reckonAll [vR (some 0), vI k, vI last] h Q := by
  refine w_X8_reckonAll ?_
  intro h1 e1
  subst e1
  exact lp_rekL hm hb hl (fun h' f r => kQ h' (FM.rfl'.si.trans f) r) 400 k [] (si h 0 38 0) hE (by decide) FM.rfl' gi_eq (fun j hj => by cases hj) (fun x hx => by cases hx)
