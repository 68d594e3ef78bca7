/-! a text's value in the class: xEv -/
theorem lp_value {d b : Nat} {Q : Option AV → AH → Prop} {h0 : AH} {t s ns : Nat} {m res : Int} (kt : Kd GX h0 t (.inl 5)) (rs : rf h0 t 3 = some s) (ks : Kd GX h0 s (.inr (0, ns))) (hs : 76 ≤ s) (ht : 76 ≤ t) (len : gi h0 t 2 = ns) (hns : (ns : Int) ≤ 872)
    (W : WfS m (gi h0 s) ns) (hm : m ≤ 37) (hf : ∀ i, 0 ≤ i → i ≤ m → -1000000000 ≤ gi h0 39 i ∧ gi h0 39 i ≤ 1000000000) (kQ : ∀ h', VX h0 h' → Q (some (vI res)) h') :
    ∀ (fuel : Nat) (n k : Int) (st : List Int) (h : AH), n + fuel = ns → 0 ≤ n → VX h0 h → k % 2 = 0 → k ≤ 1000000000 → StkX h st → (∀ x ∈ st, Bv x) → st.length ≤ 100 → xEv (gi h0 s) (gi h0 39) ns fuel k st = res → Lp_X1_value_8 d b Q t ((st.length : Int) - 1) k n h
  | 0, n, k, st, h, h1, h2, V, _, _, _, _, _, hE => by
    have e2 : gi h t 2 = ns := (V.1 _ _ (by omega)).trans len
    refine l_X1_value_8 (V.j.kd' kt) ⟨fun _ => ?_, fun c => by omega⟩
    have := kQ h V
    rw [← hE] at this
    exact this
  | fuel + 1, n, k, st, h, h1, h2, V, hev, hk, hS, hB, hL, hE => by
    have e2 : gi h t 2 = ns := (V.1 _ _ (by omega)).trans len
    have brk : res = xBr → Q (some (vI (-2000000000))) h := fun e => by
      have := kQ h V
      rw [e] at this
      exact this
    unfold xEv at hE
    by_cases hA : 0 ≤ k ∧ k + 1 < ns
    rotate_left
    · rw [if_neg hA] at hE
      exact l_X1_value_8 (V.j.kd' kt) ⟨fun c => by omega, fun _ => ⟨fun _ => brk hE.symm, fun c => ⟨by omega, fun _ => brk hE.symm, fun c2 => by omega⟩⟩⟩
    rw [if_pos hA] at hE
    dsimp only at hE
    have rs' : rf h t 3 = some s := by rw [V.2.1]; exact rs
    have ks' := V.j.kd' ks
    refine l_X1_value_8 (V.j.kd' kt) ⟨fun c => by omega, fun _ => ⟨fun c => by omega, fun c => ⟨by omega, fun c2 => by omega, fun c2 => ⟨s, ns, rs', ks', by omega, s, ns, rs', ks', by omega, by omega, by omega, ?_⟩⟩⟩⟩
    have w := W (k / 2) (by omega) (by omega)
    rw [show 2 * (k / 2) = k by omega] at w
    rw [V.1 s k (by omega), V.1 s (k + 1) (by omega)]
    generalize gi h0 s k = step at *
    generalize gi h0 s (k + 1) = told at *
    obtain ⟨w1, w2, w3⟩ := w
    have ih := lp_value (d := d) (b := b) (Q := Q) kt rs ks hs ht len hns W hm hf kQ fuel
    have C : (step = 1 ∨ step = 2) → ¬ 100 ≤ st.length → xEv (gi h0 s) (gi h0 39) ns fuel (k + 2) ((if step = 1 then told else gi h0 39 told) :: st) = res → Lp_X1_value_100 d b Q t ((st.length : Int) - 1) (k + 2) n step told h := fun c c2 hE => by
      have go : ∀ v, Bv v → xEv (gi h0 s) (gi h0 39) ns fuel (k + 2) (v :: st) = res → Lp_X1_value_8 d b Q t ((st.length : Int) - 1 + 1) (k + 2) (n + 1) (si h 40 ((st.length : Int) - 1 + 1) v) := fun v bv hE => by
        rw [show (st.length : Int) - 1 + 1 = st.length by omega]
        have := ih (n + 1) (k + 2) (v :: st) (si h 40 st.length v) (by omega) (by omega) V.si (by omega) (by omega) (StkX.push hS (fun i i0 i1 => gi_nk (by omega)) gi_eq) (List.forall_mem_cons.mpr ⟨bv, hB⟩) (by rw [List.length_cons]; omega) hE
        rwa [List.length_cons, show ((st.length + 1 : Nat) : Int) - 1 = st.length by omega] at this
      refine l_X1_value_100 (V.j.kd' kt) ⟨by omega, fun c3 => ⟨by omega, fun h2 e2 => ⟨by omega, ?_⟩⟩, fun c3 => ⟨by have := w2 (by omega); omega, by omega, fun h2 e2 => ⟨by omega, ?_⟩⟩⟩
      · subst e2
        rw [if_pos c3] at hE
        exact go told ⟨w1.1, by omega⟩ hE
      · subst e2
        rw [if_neg c3] at hE
        have q := w2 (by omega)
        have f := hf told q.1 q.2
        rw [V.1 39 _ (by decide)]
        exact go _ ⟨f.1, by omega⟩ hE
    by_cases c12 : step = 1 ∨ step = 2
    · rw [if_pos c12] at hE
      by_cases c100 : 100 ≤ st.length ∨ (step = 2 ∧ (told < 0 ∨ 38 ≤ told))
      · rw [if_pos c100] at hE
        have B := brk hE.symm
        refine l_X1_value_56 (V.j.kd' kt) ⟨fun c => ⟨by omega, fun _ => B, fun z => by omega⟩, fun c => ⟨fun c2 => ⟨by omega, fun _ => B, fun z => ⟨fun _ => ⟨fun _ => B, fun z1 => ⟨fun z2 => by omega, fun _ => B⟩⟩, fun z => absurd c2 z⟩⟩, fun z => by omega⟩⟩
      · rw [if_neg c100] at hE
        have L := C c12 (by omega) hE
        refine l_X1_value_56 (V.j.kd' kt) ⟨fun c => ⟨by omega, fun z => by omega, fun z => ⟨fun z => by omega, fun _ => L⟩⟩, fun c => ⟨fun c2 => ⟨by omega, fun z => by omega, fun z => ⟨fun _ => ⟨fun z => by omega, fun z1 => ⟨fun z2 => L, fun z => by omega⟩⟩, fun z => absurd c2 z⟩⟩, fun z => by omega⟩⟩
    rw [if_neg c12] at hE
    refine l_X1_value_56 (V.j.kd' kt) ⟨fun c => absurd (Or.inl c) c12, fun n1 => ⟨fun c => absurd (Or.inr c) c12, fun n2 => ?_⟩⟩
    match st, hE, hS, hB, hL, C with
    | [], hE, hS, hB, hL, _ => exact ⟨fun z => by simp at z, fun _ => brk hE.symm⟩
    | x :: r, hE, hS, hB, hL, _ =>
      dsimp only at hE
      rw [List.length_cons] at hL
      have tx := hS.top
      have bx : Bv x := hB x List.mem_cons_self
      have bB : ∀ y ∈ r, Bv y := fun y hy => hB y (List.mem_cons_of_mem _ hy)
      rw [List.length_cons, show ((r.length + 1 : Nat) : Int) - 1 = r.length by omega]
      have pop : ∀ k', k' % 2 = 0 → k' ≤ 1000000000 → xEv (gi h0 s) (gi h0 39) ns fuel k' r = res → Lp_X1_value_8 d b Q t ((r.length : Int) + -1) k' (n + 1) h := fun k' a1 a2 hE => by
        rw [show (r.length : Int) + -1 = r.length - 1 by omega]
        exact ih (n + 1) k' r h (by omega) (by omega) V a1 a2 hS.pop bB (by omega) hE
      have stay : ∀ k', k' % 2 = 0 → k' ≤ 1000000000 → xEv (gi h0 s) (gi h0 39) ns fuel k' (x :: r) = res → Lp_X1_value_8 d b Q t (r.length : Int) k' (n + 1) h := fun k' a1 a2 hE => by
        have := ih (n + 1) k' (x :: r) h (by omega) (by omega) V a1 a2 hS hB (by rw [List.length_cons]; omega) hE
        rwa [List.length_cons, show ((r.length + 1 : Nat) : Int) - 1 = r.length by omega] at this
      refine ⟨fun _ => ⟨fun c0 => ⟨by omega, ?_⟩, fun d0 => ⟨fun c3 => ⟨by omega, ?_, by omega, fun h3 e3 => ⟨by omega, ?_⟩⟩, fun d3 => ⟨fun c4 => ⟨by omega, fun _ => ⟨fun z => ⟨by omega, ?_⟩, fun z => ⟨by omega, by omega, ?_⟩⟩, fun z => absurd c4 z⟩, fun d4 => ⟨fun c5 => ⟨by omega, fun z => absurd z d4, fun _ => ⟨fun z => ⟨by omega, ?_⟩, fun z => ⟨by omega, by omega, ?_⟩⟩⟩, fun d5 => ⟨fun c1 => ?_, fun c1 => ?_⟩⟩⟩⟩⟩, fun z => by omega⟩
      · rw [if_pos c0] at hE
        rw [tx, hE]
        exact kQ h V
      · rw [tx]
        omega
      · subst e3
        rw [if_neg d0, if_pos c3] at hE
        rw [tx]
        have := ih (n + 1) (k + 2) ((1 - x) :: r) (si h 40 r.length (1 - x)) (by omega) (by omega) V.si (by omega) (by omega) (StkX.push hS.pop (fun i i0 i1 => gi_nk (by omega)) gi_eq) (List.forall_mem_cons.mpr ⟨by omega, bB⟩) (by rw [List.length_cons]; omega) hE
        rwa [List.length_cons, show ((r.length + 1 : Nat) : Int) - 1 = r.length by omega] at this
      · rw [if_neg d0, if_neg d3, if_pos (Or.inl c4), if_pos c4, if_pos (by omega)] at hE
        exact stay told (w3 (Or.inl c4)) w1.2 hE
      · rw [if_neg d0, if_neg d3, if_pos (Or.inl c4), if_pos c4, if_neg (by omega)] at hE
        exact pop (k + 2) (by omega) (by omega) hE
      · rw [if_neg d0, if_neg d3, if_pos (Or.inr c5), if_neg d4, if_pos (by omega)] at hE
        exact stay told (w3 (Or.inr c5)) w1.2 hE
      · rw [if_neg d0, if_neg d3, if_pos (Or.inr c5), if_neg d4, if_neg (by omega)] at hE
        exact pop (k + 2) (by omega) (by omega) hE
      all_goals rw [if_neg d0, if_neg d3, if_neg (by omega)] at hE
      · match r, hE, hS, bB, hL, tx, c1 with
        | [], _, _, _, _, _, c1 => simp at c1
        | z :: q, hE, hS, bB, hL, tx, c1 =>
          dsimp only at hE
          rw [List.length_cons] at hL
          have tz := hS.pop.top
          have bz : Bv z := bB z List.mem_cons_self
          rw [List.length_cons] at tx ⊢
          rw [show ((q.length + 1 : Nat) : Int) + -1 = q.length by omega]
          rw [show ((q.length + 1 : Nat) : Int) = (q.length : Int) + 1 by omega] at tx
          rw [tx, tz]
          refine ⟨by omega, by omega, by omega, by omega, c_X1_joined bz bx ⟨_, rfl, by omega, fun h2 e2 => ⟨by omega, fun c => ?_, fun c => ⟨by omega, ?_⟩⟩⟩⟩
          · subst e2
            rw [if_pos (show xJo step z x = xBr from c)] at hE
            have := kQ (si h 40 q.length (xJo step z x)) V.si
            rw [← hE] at this
            exact this
          · subst e2
            rw [if_neg (show ¬ xJo step z x = xBr from c)] at hE
            have bj := (xJo_bd step z x).resolve_left c
            have := ih (n + 1) (k + 2) (xJo step z x :: q) (si h 40 q.length (xJo step z x)) (by omega) (by omega) V.si (by omega) (by omega) (StkX.push hS.pop.pop (fun i i0 i1 => gi_nk (by omega)) gi_eq) (List.forall_mem_cons.mpr ⟨⟨bj.1, by omega⟩, fun y hy => bB y (List.mem_cons_of_mem _ hy)⟩) (by rw [List.length_cons]; omega) hE
            rwa [List.length_cons, show ((q.length + 1 : Nat) : Int) - 1 = q.length by omega] at this
      · match r, hE, c1 with
        | [], hE, _ => exact brk hE.symm
        | z :: q, _, c1 => exact absurd (by rw [List.length_cons]; omega) c1
theorem c_X1_value {d b : Nat} {Q : Option AV → AH → Prop} {h : AH} {t s ns : Nat} {m k : Int} (kt : Kd GX h t (.inl 5)) (rs : rf h t 3 = some s) (ks : Kd GX h s (.inr (0, ns))) (hs : 76 ≤ s) (ht : 76 ≤ t) (len : gi h t 2 = ns) (hns : (ns : Int) ≤ 872)
    (W : WfS m (gi h s) ns) (hm : m ≤ 37) (hf : ∀ i, 0 ≤ i → i ≤ m → -1000000000 ≤ gi h 39 i ∧ gi h 39 i ≤ 1000000000) (hk : k % 2 = 0) (hk2 : k ≤ 1000000000) (kQ : ∀ h', VX h h' → Q (some (vI (xEv (gi h s) (gi h 39) ns (ns : Int).toNat k []))) h') : WM GX (d + 1) b mX1_value [vR (some 38), vR (some t), vI k] h Q := by
  refine w_X1_value kt ?_
  exact lp_value kt rs ks hs ht len hns W hm hf kQ (ns : Int).toNat 0 k [] h (by omega) (by omega) VX.rfl' hk hk2 (fun j hj => by cases hj) (fun x hx => by cases hx) (by decide) rfl
