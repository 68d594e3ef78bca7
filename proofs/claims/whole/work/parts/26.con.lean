/-! what the law in force tells, in the class: as the reference's -/
theorem w_X1_lastTold_none {d b : Nat} {Q : Option AV → AH → Prop} {h : AH} {x2 x3 : Int} (K : Q (some (vI x3)) h) : WM GX (d + 2) b mX1_lastTold [vR (some 38), vR none, vI x2, vI x3] h Q := by
  refine WM_introE (loc' := [some (vR (some 38)), some (vR none), some (vI x2), some (vI x3), none, none, none, none]) rfl (by decide) (Nat.le_of_ble_eq_true rfl) ?_
  refine J_aload_n rfl dX1_lastTold_0 ?_
  refine J_ifnonnull (tgt := 6) dX1_lastTold_1 (by decide) (fun c => absurd rfl c) (fun _ => ?_)
  refine J_iload_n rfl dX1_lastTold_4 ?_
  exact J_ireturn rfl dX1_lastTold_5 K
theorem mEv_congr {op arg leaf leaf' : Int → Int} {last : Int} (hl : ∀ j, 0 ≤ j → j < last → op j < 20 → leaf j = leaf' j) : ∀ (n : Nat) (k : Int) (st : List Int), mEv op arg leaf last n k st = mEv op arg leaf' last n k st
  | 0, _, _ => rfl
  | n + 1, k, st => by
    have ih := mEv_congr (arg := arg) hl n
    unfold mEv
    by_cases h1 : k < 0
    · rw [if_pos h1, if_pos h1]
    rw [if_neg h1, if_neg h1]
    by_cases h2 : k < last
    · rw [if_pos h2, if_pos h2]
      by_cases h3 : op k < 20
      · rw [if_pos h3, if_pos h3, hl k (by omega) h2 h3, ih]
      rw [if_neg h3, if_neg h3]
      simp only [ih]
    · rw [if_neg h2, if_neg h2]
theorem mVal_congr {c e e' : Int → Int} {s0 s1 : Int} (V : InvC c) (h : s1 ≤ 400) (he : ∀ i, 1 ≤ i → i ≤ 11 → e i = e' i) : mVal c e s0 s1 = mVal c e' s0 s1 := by
  unfold mVal
  rw [mEv_congr (leaf' := cLeaf c e') (fun j j0 j1 j2 => ?_)]
  obtain ⟨q1, -, q3⟩ := V j j0 (by omega)
  unfold cLeaf
  by_cases z : cOp c j = 0
  · rw [if_pos z, if_pos z]
  · rw [if_neg z, if_neg z]
    exact he _ (by omega) (q3 j2).1
theorem mTells_congr {c e e' : Int → Int} {head wo : Int} : ∀ n : Nat, (∀ j : Nat, j < n → cSay c e j = cSay c e' j) → mTells c e head wo n = mTells c e' head wo n
  | 0, _ => rfl
  | n + 1, h => by
    show (if _ then _ else _) = (if _ then _ else _)
    rw [h n (by omega), mTells_congr n (fun j hj => h j (by omega))]
/-- where a law's code ends -/
def EndC (c : Int → Int) : Prop := ∀ j : Nat, (j : Int) < c 1 → (c (2 + 8 * j) < 2 → c (2 + 8 * j + 4) ≤ 400) ∧ (c (2 + 8 * j + 5) < c (2 + 8 * j + 6) → c (2 + 8 * j + 6) ≤ 400)
theorem cSay_congr {c e e' : Int → Int} {j : Nat} (V : InvC c) (E : (c (2 + 8 * j) < 2 → c (2 + 8 * j + 4) ≤ 400) ∧ (c (2 + 8 * j + 5) < c (2 + 8 * j + 6) → c (2 + 8 * j + 6) ≤ 400)) (he : ∀ i, 1 ≤ i → i ≤ 11 → e i = e' i) : cSay c e j = cSay c e' j := by
  unfold cSay
  have cond : (c (2 + 8 * j + 5) < c (2 + 8 * j + 6) ∧ (mVal c e (c (2 + 8 * j + 5)) (c (2 + 8 * j + 6)) = none ∨ mVal c e (c (2 + 8 * j + 5)) (c (2 + 8 * j + 6)) = some 0)) ↔ (c (2 + 8 * j + 5) < c (2 + 8 * j + 6) ∧ (mVal c e' (c (2 + 8 * j + 5)) (c (2 + 8 * j + 6)) = none ∨ mVal c e' (c (2 + 8 * j + 5)) (c (2 + 8 * j + 6)) = some 0)) := and_congr_right (fun z => by rw [mVal_congr V (E.2 z) he])
  simp only [cond]
  by_cases h2 : c (2 + 8 * j) < 2
  · rw [mVal_congr V (E.1 h2) he]
  · rw [if_neg h2, if_neg h2]
theorem TxtR.endC {h : AH} {t : Nat} {c : Int → Int} (T : TxtR h t c) : EndC c := by
  obtain ⟨-, -, -, a, s, na, ns, -, -, -, -, -, -, -, -, -, -, -, -, -, -, -, -, q⟩ := T
  intro j hj
  obtain ⟨-, q2, -, q4⟩ := q j (by omega) hj
  exact ⟨fun z => (q2 z).2.2.2.2.1, fun z => by
    rcases q4 with q4 | q4
    · omega
    · exact q4.2.2.2.2.2.1⟩
theorem SemEq.val {len f s0 s1 : Int} {steps c e : Int → Int} (S : SemEq 11 steps len f (cOp c) (cArg c) (cLeaf c) (fun e i => e (i + 1)) s0 s1) (he : EB e) :
    (∃ v, mVal c e s0 s1 = some v ∧ xEv steps (fun i => e (i + 1)) len len.toNat f [] = v ∧ -1000000000 ≤ v ∧ v ≤ 1000000000) ∨ (mVal c e s0 s1 = none ∧ xEv steps (fun i => e (i + 1)) len len.toNat f [] = xBr) := by
  rcases S e he with ⟨v, h1, h2, h3⟩ | ⟨h1, h2⟩
  · exact Or.inl ⟨v, by unfold mVal; rw [h1]; rfl, h2, h3⟩
  · exact Or.inr ⟨by unfold mVal; rw [h1], h2⟩
theorem TstEq.val {len f s0 s1 : Int} {steps c e : Int → Int} (S : TstEq 11 steps len f (cOp c) (cArg c) (cLeaf c) (fun e i => e (i + 1)) s0 s1) (he : EB e) :
    (∃ v, mVal c e s0 s1 = some v ∧ xEv steps (fun i => e (i + 1)) len len.toNat f [] = v ∧ (v = 0 ∨ v = 1)) ∨ (mVal c e s0 s1 = none ∧ xEv steps (fun i => e (i + 1)) len len.toNat f [] = xBr) := by
  rcases S.1 e he with ⟨v, h1, h2, h3⟩ | ⟨h1, h2⟩
  · exact Or.inl ⟨v, by unfold mVal; rw [h1]; rfl, h2, S.2 e he v h1⟩
  · exact Or.inr ⟨by unfold mVal; rw [h1], h2⟩
theorem facts_e (f : Int → Int) : (fun i => (fun j => f (j - 1)) (i + 1)) = f := by
  funext i
  dsimp only
  rw [show i + 1 - 1 = i by omega]
theorem lp_lastTold {d b : Nat} {Q : Option AV → AH → Prop} {h0 : AH} {t : Nat} {c : Int → Int} {verb wo : Int} (T : TxtR h0 t c) (hb : EB (fun i => gi h0 39 (i - 1))) :
    ∀ (n : Nat) (h : AH), VX h0 h → (n : Int) ≤ c 1 → (∀ h', VX h0 h' → Q (some (vI (mTells c (fun i => gi h0 39 (i - 1)) verb wo n))) h') → Lp_X1_lastTold_14 d b Q t verb wo ((n : Int) - 1) h := by
  intro n
  induction n with
  | zero =>
    intro h V _ kQ
    obtain ⟨t1, t2, t3, -⟩ := T
    exact l_X1_lastTold_14 (V.j.kd' (Or.inr ⟨t3, t2⟩)) ⟨fun _ => kQ h V, fun z => absurd (by omega) z⟩
  | succ n ih =>
    intro h V hn kQ
    obtain ⟨t1, t2, t3, a, s, na, ns, a1, a2, a3, a4, ra, rs, ka, ks, na60, ns8, g0, c0, c12, g2, na5, W, q⟩ := T
    obtain ⟨⟨q0, q0', q1⟩, q2, q3, q4⟩ := q n (by omega) (by omega)
    clear q
    have kt : Kd GX h0 t (.inl 5) := Or.inr ⟨t3, t2⟩
    have tell : ∀ {Q' : Option AV → AH → Prop} (h' : AH) (j : Int), VX h0 h' → 0 ≤ j → j ≤ 4 → Q' (some (vI (gi h0 a (5 * n + j)))) h' → WM GX (d + 1) 0 mX5_told [vR (some t), vI n, vI j] h' Q' := fun h' j V' j0 j1 kk => by
      refine c_X5_told (a := a) (na := na) (V'.j.kd' kt) (by rw [V'.2.1]; exact ra) (V'.j.kd' (Or.inr ⟨ka, a3⟩)) (by omega) ⟨j0, j1⟩ (by omega) (by omega) ?_
      rw [V'.1 a _ (by omega)]
      exact kk
    have val : ∀ {Q' : Option AV → AH → Prop} (h' : AH) (f : Int), VX h0 h' → f % 2 = 0 → f ≤ 1000000000 → (∀ h'', VX h0 h'' → Q' (some (vI (xEv (gi h0 s) (fun i => (fun j => gi h0 39 (j - 1)) (i + 1)) ns (ns : Int).toNat f []))) h'') → WM GX (d + 1) 0 mX1_value [vR (some 38), vR (some t), vI f] h' Q' := fun h' f V' f0 f1 kk => by
      rw [facts_e] at kk
      have es : gi h' s = gi h0 s := funext fun k => V'.1 s k (by omega)
      have ef : gi h' 39 = gi h0 39 := funext fun k => V'.1 39 k (by decide)
      refine c_X1_value (s := s) (ns := ns) (m := 10) (V'.j.kd' kt) (by rw [V'.2.1]; exact rs) (V'.j.kd' (Or.inr ⟨ks, a4⟩)) a2 t1 (by rw [V'.1 t _ (by omega)]; exact g2) ns8 (by rw [es]; exact W) (by decide) (fun i i0 i1 => ?_) f0 f1 (fun h'' V'' => ?_)
      · rw [ef]
        have := hb (i + 1) (by omega) (by omega)
        dsimp only at this
        rwa [show i + 1 - 1 = i by omega] at this
      · rw [es, ef]
        exact kk h'' (V'.trans V'')
    have nx : ∀ h', VX h0 h' → (c (2 + 8 * n) = verb → cSay c (fun i => gi h0 39 (i - 1)) n = none) → Lp_X1_lastTold_14 d b Q t verb wo ((n : Int) - 1) h' := fun h' V' e => ih h' V' (by omega) (fun h'' V'' => by
      have := kQ h'' V''
      have e2 : mTells c (fun i => gi h0 39 (i - 1)) verb wo (n + 1) = mTells c (fun i => gi h0 39 (i - 1)) verb wo n := by
        show (if _ then _ else _) = _
        by_cases z : c (2 + 8 * n) = verb
        · rw [if_pos z, e z]
        · rw [if_neg z]
      rwa [e2] at this)
    have fin : ∀ v h', VX h0 h' → c (2 + 8 * n) = verb → cSay c (fun i => gi h0 39 (i - 1)) n = some v → Q (some (vI v)) h' := fun v h' V' z e => by
      have := kQ h' V'
      have e2 : mTells c (fun i => gi h0 39 (i - 1)) verb wo (n + 1) = v := by
        show (if _ then _ else _) = _
        rw [if_pos z, e]
      rwa [e2] at this
    have sp : ∀ h2, VX h0 h2 → c (2 + 8 * n) = verb → ¬ (c (2 + 8 * n + 5) < c (2 + 8 * n + 6) ∧ (mVal c (fun i => gi h0 39 (i - 1)) (c (2 + 8 * n + 5)) (c (2 + 8 * n + 6)) = none ∨ mVal c (fun i => gi h0 39 (i - 1)) (c (2 + 8 * n + 5)) (c (2 + 8 * n + 6)) = some 0)) →
        WM GX (d + 1) 0 mX5_told [vR (some t), vI n, vI 1] h2 (fun r h3 => ∃ u3, r = some (vI u3) ∧ (u3 = (-1) → Q (some (vI 1)) h3) ∧ (¬(u3 = (-1)) → WM GX (d + 1) 0 mX1_value [vR (some 38), vR (some t), vI u3] h3 (fun r h4 => ∃ u4, r = some (vI u4) ∧ (u4 = (-2000000000) → R32 ((n : Int) + (-1)) ∧ Lp_X1_lastTold_14 d b Q t verb wo ((n : Int) + (-1)) h4) ∧ (¬(u4 = (-2000000000)) → Q (some (vI u4)) h4)))) := fun h2 V2 z ng => by
      refine tell h2 1 V2 (by decide) (by decide) ⟨_, rfl, fun e1 => ?_, fun e1 => ?_⟩
      · exact fin 1 h2 V2 z (by unfold cSay; rw [if_neg ng, if_neg (fun lt => (q2 lt).1 e1)])
      · have k2 : c (2 + 8 * n) < 2 := Int.not_le.mp (fun z => e1 (q3 z))
        obtain ⟨s1, s2, s2', s3, s4, s5⟩ := q2 k2
        have sv := s5.val hb
        refine val h2 _ V2 s2 (by omega) (fun h4 V4 => ⟨_, rfl, fun e2 => ?_, fun e2 => ?_⟩)
        · rcases sv with ⟨v, m1, m2, m3⟩ | ⟨m1, m2⟩
          · rw [m2] at e2; omega
          · rw [show (n : Int) + (-1) = n - 1 by omega]
            exact ⟨by omega, nx h4 V4 (fun _ => by unfold cSay; rw [if_neg ng, if_pos k2, m1])⟩
        · rcases sv with ⟨v, m1, m2, m3⟩ | ⟨m1, m2⟩
          · rw [m2]
            exact fin v h4 V4 z (by unfold cSay; rw [if_neg ng, if_pos k2, m1])
          · exact absurd m2 e2
    rw [show ((n + 1 : Nat) : Int) - 1 = n by omega]
    have np : (n : Int) + (-1) = n - 1 := by omega
    refine l_X1_lastTold_14 (V.j.kd' kt) ⟨fun z => absurd z (by omega), fun _ => ?_⟩
    refine tell h 0 V (by decide) (by decide) ⟨_, rfl, fun e0 => ⟨V.j.kd' kt, ?_⟩, fun e0 => ⟨by omega, ?_⟩⟩
    all_goals rw [Int.add_zero, q1] at e0
    · refine tell h 4 V (by decide) (by decide) ⟨_, rfl, fun e4 => ⟨V.j.kd' kt, ?_⟩, fun e4 => ?_⟩
      · rcases q4 with ⟨q5, q6⟩ | ⟨q5, -⟩
        · exact sp h V e0 (fun w => by omega)
        · exact absurd e4 q5
      · rcases q4 with ⟨q5, q6⟩ | ⟨q5, q6, q6', q7, q8, q9, q10⟩
        · exact absurd q5 e4
        · have tv := q10.val hb
          refine val h _ V q6 (by omega) (fun h5 V5 => ⟨_, rfl, fun e5 => ⟨V5.j.kd' kt, ?_⟩, fun e5 => ⟨by omega, ?_⟩⟩)
          · refine sp h5 V5 e0 (fun w => ?_)
            rcases tv with ⟨v, m1, m2, m3⟩ | ⟨m1, m2⟩
            · rw [m1] at w
              rw [m2] at e5
              rcases w.2 with w | w
              · cases w
              · cases w; omega
            · rw [m2] at e5
              exact absurd e5 (by decide)
          · rw [np]
            have or_ : mVal c (fun i => gi h0 39 (i - 1)) (c (2 + 8 * n + 5)) (c (2 + 8 * n + 6)) = none ∨ mVal c (fun i => gi h0 39 (i - 1)) (c (2 + 8 * n + 5)) (c (2 + 8 * n + 6)) = some 0 := by
              rcases tv with ⟨v, m1, m2, m3⟩ | ⟨m1, m2⟩
              · rw [m2] at e5
                exact Or.inr (by rw [m1, show v = 0 by omega])
              · exact Or.inl m1
            exact nx h5 V5 (fun _ => by unfold cSay; rw [if_pos ⟨q7, or_⟩])
    · rw [np]
      exact nx h V (fun z => absurd z e0)
/-- the law in force, as the class has it -/
def LawU (h : AH) (r : Int → Int) (u : Option Nat) : Prop := (u = none ∧ r 4 = -1) ∨ ∃ t, u = some t ∧ r 4 ≠ -1 ∧ TxtR h t (lawC r (r 4))
theorem c_X1_lastTold {d b : Nat} {Q : Option AV → AH → Prop} {h : AH} {u : Option Nat} {r e : Int → Int} {verb wo : Int} (L : LawU h r u) (I : InvR r) (he : EB e) (hf : ∀ i, 1 ≤ i → i ≤ 11 → gi h 39 (i - 1) = e i) (k : ∀ h', VX h h' → Q (some (vI (rTells r e verb wo))) h') : WM GX (d + 2) b mX1_lastTold [vR (some 38), vR u, vI verb, vI wo] h Q := by
  rcases L with ⟨l1, l2⟩ | ⟨t, l1, l2, T⟩
  · subst l1
    refine w_X1_lastTold_none ?_
    have := k h VX.rfl'
    unfold rTells at this
    rwa [if_pos l2] at this
  · subst l1
    have I1 := I.1
    have I7 := I.2.2.2.2.2.2 (r 4) (by omega) (by omega)
    have E := T.endC
    have hb : EB (fun i => gi h 39 (i - 1)) := fun i i0 i1 => by
      dsimp only
      rw [hf i i0 i1]
      exact he i i0 i1
    have T' := T
    obtain ⟨t1, t2, t3, a, s, na, ns, a1, a2, a3, a4, ra, rs, ka, ks, na60, ns8, g0, c0, c12, -⟩ := T'
    refine w_X1_lastTold (Or.inr ⟨t3, t2⟩) ⟨by omega, ?_⟩
    have := lp_lastTold (d := d) (b := b) (Q := Q) (verb := verb) (wo := wo) T hb (lawC r (r 4) 1).toNat h VX.rfl' (by omega) (fun h' V => ?_)
    · rwa [show (((lawC r (r 4) 1).toNat : Nat) : Int) = gi h t 0 by omega] at this
    · have := k h' V
      unfold rTells at this
      rw [if_neg l2] at this
      rwa [mTells_congr (e' := e) _ (fun j hj => cSay_congr I7 (E j (by omega)) hf)]
theorem LawU.vx {h h' : AH} {r : Int → Int} {u : Option Nat} (L : LawU h r u) (D : DynX h h') : LawU h' r u := L.imp_right (fun ⟨t, l1, l2, l3⟩ => ⟨t, l1, l2, l3.dyn D⟩)
theorem c_X0_lawInForce {d b : Nat} {Q : Option AV → AH → Prop} {h : AH} {o : Nat} {r : Int → Int} (ho : isl o) (A : RA h o r) (k : ∀ u, LawU h r u → Q (some (vR u)) h) : WM GX d b mX0_lawInForce [vR (some o)] h Q := by
  have e4 := A.1.force
  have e3 := A.1.laws
  have I1 := A.2.2.1
  refine w_X0_lawInForce ho ⟨fun z => k none (Or.inl ⟨rfl, by omega⟩), fun z => ⟨fun z2 => by omega, fun z2 => ⟨by omega, ?_⟩⟩⟩
  obtain ⟨t, q1, q2⟩ := A.2.1.1 (r 4) (by omega) (by omega)
  refine k _ (Or.inr ⟨t, ?_, by omega, q2⟩)
  rw [← e4]
  exact q1
theorem isl_ne {o c : Nat} (ho : isl o) (hc : c ≤ 12) : o + c ≠ 39 ∧ o + c ≠ 40 := by rcases ho with z | z | z | z <;> omega
theorem RA.jx {h h' : AH} {o : Nat} {r : Int → Int} (A : RA h o r) (ho : isl o) (j : JX h h') : RA h' o r := A.to (fun c hc k => j.1 _ k (isl_ne ho hc).1 (isl_ne ho hc).2) j.same.1 (fun i => by rw [j.2.1])
theorem c_X1_learnOf {d b : Nat} {Q : Option AV → AH → Prop} {h : AH} {o : Nat} {r : Int → Int} {x2 x3 x4 x5 : Int} (ho : isl o) (A : RA h o r) (hd : 0 ≤ x2 ∧ x2 < r 1) (hh : -1 ≤ x3 ∧ x3 < r 0) (k : ∀ h', JX h h' → (∀ i, 1 ≤ i → i ≤ 11 → gi h' 39 (i - 1) = envR r x2 x3 x4 x5 (r (23 + x2)) i) → Q none h') : WM GX (d + 1) b mX1_learnOf [vR (some 38), vR (some o), vI x2, vI x3, vI x4, vI x5] h Q := by
  have I1 := A.2.2.1
  have b2 : 0 ≤ x2 ∧ x2 < 8 := by omega
  have b3 : 0 ≤ x3 → 0 ≤ x3 ∧ x3 < 8 := fun z => by omega
  have ew := A.1.wide b2
  have eo := A.1.wood b2
  have em := A.1.home b2
  have ec := A.1.caught b2
  have ed := A.1.day
  have ei := A.1.mood
  have e0 := A.1.houses
  have es : 0 ≤ x3 → r (64 + x3) = gi h (o + 1) x3 := fun z => A.1.size (b3 z)
  have n0 : o ≠ 39 := (isl_ne (c := 0) ho (by decide)).1
  refine w_X1_learnOf ho ?_
  intro h1 e1
  refine ⟨b2, fun h2 e2 => ⟨b2, fun h3 e3 => ⟨b2, fun h4 e4 h5 e5 => ⟨fun z => ⟨b3 z.1, fun h12 e12 h13 e13 h14 e14 => ⟨b2, fun h15 e15 h16 e16 h17 e17 => k _ ?_ ?_⟩⟩, fun z h6 e6 h7 e7 h8 e8 => ⟨b2, fun h9 e9 h10 e10 h11 e11 => k _ ?_ ?_⟩⟩⟩⟩⟩
  · subst e17 e16 e15 e14 e13 e12 e5 e4 e3 e2 e1
    exact JX.rfl'.si.si.si.si.si.si.si.si.si.si.si
  · subst e17 e16 e15 e14 e13 e12 e5 e4 e3 e2 e1
    intro i i0 i1
    have : i = 1 ∨ i = 2 ∨ i = 3 ∨ i = 4 ∨ i = 5 ∨ i = 6 ∨ i = 7 ∨ i = 8 ∨ i = 9 ∨ i = 10 ∨ i = 11 := by omega
    have nz : ¬ x3 = -1 := by omega
    unfold envR
    rcases this with e | e | e | e | e | e | e | e | e | e | e <;> subst e <;> simp only [gi_si, Int.reduceEq, Int.reduceSub, and_true, and_false, true_and, if_true, if_false, ↓reduceIte, nz]
    all_goals first | exact ew.symm | exact eo.symm | exact em.symm | exact ec.symm | exact ed.symm | exact ei.symm | exact (es z.1).symm
  · subst e11 e10 e9 e8 e7 e6 e5 e4 e3 e2 e1
    exact JX.rfl'.si.si.si.si.si.si.si.si.si.si.si
  · have hz : x3 = -1 := by
      rw [e5, e4, e3, e2, e1] at z
      simp only [gi_no n0] at z
      omega
    subst e11 e10 e9 e8 e7 e6 e5 e4 e3 e2 e1
    subst hz
    intro i i0 i1
    have : i = 1 ∨ i = 2 ∨ i = 3 ∨ i = 4 ∨ i = 5 ∨ i = 6 ∨ i = 7 ∨ i = 8 ∨ i = 9 ∨ i = 10 ∨ i = 11 := by omega
    unfold envR
    rcases this with e | e | e | e | e | e | e | e | e | e | e <;> subst e <;> simp only [gi_si, Int.reduceEq, Int.reduceSub, Int.reduceNeg, and_true, and_false, true_and, if_true, if_false, ↓reduceIte]
    all_goals first | exact ew.symm | exact eo.symm | exact em.symm | exact ec.symm | exact ed.symm | exact ei.symm
/-! what the class's judge answers: the reference's functions of the row -/
theorem zw_min {v : Int} : max 0 (min v 99) = zwit v 0 99 := by unfold zwit; split <;> (try split) <;> omega
theorem zw_min10 {v : Int} : max 0 (min v 10) = zwit v 0 10 := by unfold zwit; split <;> (try split) <;> omega
theorem c_X1_catchOf {d b : Nat} {Q : Option AV → AH → Prop} {h : AH} {o : Nat} {r : Int → Int} {x2 x3 x4 : Int} (ho : isl o) (A : RA h o r) (hd : 0 ≤ x2 ∧ x2 < r 1) (hc : -1 ≤ x3 ∧ x3 < 25) (hf : -1000000000 ≤ x4 ∧ x4 ≤ 1000000000) (k : ∀ h', JX h h' → Q (some (vI (rCatch r x2 x3 x4 (r (23 + x2))))) h') : WM GX (d + 3) b mX1_catchOf [vR (some 38), vR (some o), vI x2, vI x3, vI x4] h Q := by
  have I1 := A.2.2.1
  have I2 := A.2.2.2.1 x2 hd.1 hd.2
  have c1 : 0 ≤ r (23 + x2) ∧ r (23 + x2) ≤ 999 ∧ 1 ≤ r (72 + x2) ∧ r (72 + x2) ≤ 9 := by omega
  clear I2
  have ew := A.1.wide (d := x2) (by omega)
  refine w_X1_catchOf ho (c_X1_learnOf ho A hd (by omega) (fun h1 J1 F1 => ⟨rfl, c_X0_lawInForce ho (A.jx ho J1) (fun u L => ⟨u, rfl, by omega, ?_, ?_⟩)⟩))
  · rw [J1.1 _ _ (isl_ne ho (by decide)).1 (isl_ne ho (by decide)).2, ← ew]; omega
  · refine c_X1_lastTold L A.2.2 (A.2.2.env hd (by omega) hc hf (by omega)) F1 (fun h2 V2 => ⟨_, rfl, ?_⟩)
    have := k h2 (J1.trans V2.j)
    refine qi this ?_
    rw [zw_min, J1.1 _ _ (isl_ne ho (by decide)).1 (isl_ne ho (by decide)).2, ← ew, Int.mul_comm]
    unfold rCatch
    dsimp only
    split <;> omega
theorem c_X1_slamOf {d b : Nat} {Q : Option AV → AH → Prop} {h : AH} {o : Nat} {r : Int → Int} {x2 x3 : Int} (ho : isl o) (A : RA h o r) (hd : 0 ≤ x2 ∧ x2 < r 1) (hc : 0 ≤ x3 ∧ x3 < 25) (k : ∀ h', JX h h' → Q (some (vI (rSlam r x2 x3))) h') : WM GX (d + 3) b mX1_slamOf [vR (some 38), vR (some o), vI x2, vI x3] h Q := by
  have I1 := A.2.2.1
  have I2 := A.2.2.2.1 x2 hd.1 hd.2
  have I4 := A.2.2.2.2.2.1 x3 hc.1 hc.2
  have c1 : 0 ≤ r (23 + x2) ∧ r (23 + x2) ≤ 999 := by omega
  have c2 : 0 ≤ r (39 + x3) ∧ r (39 + x3) ≤ 99 := by omega
  clear I2 I4
  have ef := A.1.fish hc
  refine w_X1_slamOf ho ⟨hc, c_X1_learnOf ho A hd (by omega) (fun h1 J1 F1 => ⟨rfl, c_X0_lawInForce ho (A.jx ho J1) (fun u L => ⟨u, rfl, ?_⟩)⟩)⟩
  rw [← ef] at F1
  refine c_X1_lastTold L A.2.2 (A.2.2.env hd (by omega) (by omega) (by omega) (by omega)) F1 (fun h2 V2 => ⟨_, rfl, ?_⟩)
  rw [zw_min10]
  exact k h2 (J1.trans V2.j)
theorem c_X1_isBarred {d b : Nat} {Q : Option AV → AH → Prop} {h : AH} {o : Nat} {r : Int → Int} {x2 : Int} (ho : isl o) (A : RA h o r) (hd : 0 ≤ x2 ∧ x2 < r 1) (k : ∀ h', JX h h' → Q (some (vI (b2i (r (7 + x2) ≠ -1 ∧ rBar r x2)))) h') : WM GX (d + 3) b mX1_isBarred [vR (some 38), vR (some o), vI x2] h Q := by
  have I1 := A.2.2.1
  have I2 := A.2.2.2.1 x2 hd.1 hd.2
  have c1 : 0 ≤ r (23 + x2) ∧ r (23 + x2) ≤ 999 ∧ -1 ≤ r (7 + x2) ∧ r (7 + x2) < r 0 := by omega
  clear I2
  have eh := A.1.hangs (d := x2) (by omega)
  refine w_X1_isBarred ho ⟨by omega, fun z => qb_f (k h JX.rfl') (fun w => w.1 (eh.trans z)), fun z => ?_⟩
  rw [← eh] at z ⊢
  refine c_X1_learnOf ho A hd ⟨c1.2.2.1, c1.2.2.2⟩ (fun h1 J1 F1 => ⟨rfl, c_X0_lawInForce ho (A.jx ho J1) (fun u L => ⟨u, rfl, ?_⟩)⟩)
  refine c_X1_lastTold L A.2.2 (A.2.2.env hd ⟨c1.2.2.1, c1.2.2.2⟩ (by omega) (by omega) (by omega)) F1 (fun h2 V2 => ⟨_, rfl, fun w => ?_, fun w => ?_⟩)
  · exact qb_t (k h2 (J1.trans V2.j)) ⟨z, w⟩
  · exact qb_f (k h2 (J1.trans V2.j)) (fun q => w q.2)
/-! whether a law has a clause of "fits" -/
theorem mHas_up {c : Int → Int} {n : Nat} (h : mHas c n = 1) : ∀ m : Nat, mHas c (n + m) = 1
  | 0 => h
  | m + 1 => by
    show (if mHas c (n + m) = 0 then _ else _) = _
    rw [if_neg (by rw [mHas_up h m]; decide)]
theorem lp_has {d b : Nat} {Q : Option AV → AH → Prop} {h : AH} {t : Nat} {c : Int → Int} (T : TxtR h t c) (k : Q (some (vI (mHas c (c 1).toNat))) h) :
    ∀ (m n : Nat), (n : Int) + m = c 1 → mHas c n = 0 → Lp_X5_has_2 d b Q t 2 n h := by
  have T' := T
  obtain ⟨t1, t2, t3, a, s, na, ns, a1, a2, a3, a4, ra, rs, ka, ks, na60, ns8, g0, c0, c12, g2, na5, W, q⟩ := T'
  intro m
  induction m with
  | zero =>
    intro n hm hz
    refine l_X5_has_2 (Or.inr ⟨t3, t2⟩) ⟨fun _ => ?_, fun z => by omega⟩
    rw [show (c 1).toNat = n by omega, hz] at k
    exact k
  | succ m ih =>
    intro n hm hz
    refine l_X5_has_2 (Or.inr ⟨t3, t2⟩) ⟨fun z => by omega, fun _ => ?_⟩
    have q1 := (q n (by omega) (by omega)).1.2.2
    refine c_X5_told (a := a) (na := na) (Or.inr ⟨t3, t2⟩) ra (Or.inr ⟨ka, a3⟩) (by omega) (by decide) (by omega) (by omega) ⟨_, rfl, fun e => ?_, fun e => ⟨by omega, ?_⟩⟩
    all_goals rw [Int.add_zero, q1] at e
    · have h1 : mHas c (n + 1) = 1 := by
        show (if mHas c n = 0 then _ else _) = _
        rw [if_pos hz, if_pos e]
      have h2 := mHas_up h1 m
      rw [show (c 1).toNat = n + 1 + m by omega, h2] at k
      exact k
    · have h1 : mHas c (n + 1) = 0 := by
        show (if mHas c n = 0 then _ else _) = _
        rw [if_pos hz, if_neg e]
      exact ih (n + 1) (by omega) h1
theorem c_X5_has {d b : Nat} {Q : Option AV → AH → Prop} {h : AH} {t : Nat} {c : Int → Int} (T : TxtR h t c) (k : Q (some (vI (mHas c (c 1).toNat))) h) : WM GX (d + 1) b mX5_has [vR (some t), vI 2] h Q := by
  have T' := T
  obtain ⟨t1, t2, t3, a, s, na, ns, a1, a2, a3, a4, ra, rs, ka, ks, na60, ns8, g0, c0, c12, -⟩ := T'
  exact w_X5_has (Or.inr ⟨t3, t2⟩) (lp_has T k (c 1).toNat 0 (by omega) rfl)
theorem zabs_1 {x : Int} : (1 < zabs x) ↔ ¬ (-1 ≤ x ∧ x ≤ 1) := by unfold zabs; split <;> omega
theorem c_X1_isFitting {d b : Nat} {Q : Option AV → AH → Prop} {h : AH} {o : Nat} {r : Int → Int} {x2 x3 : Int} (ho : isl o) (A : RA h o r) (hd : 0 ≤ x2 ∧ x2 < r 1) (hh : 0 ≤ x3 ∧ x3 < r 0) (k : ∀ h', JX h h' → Q (some (vI (b2i (rFits r x2 x3)))) h') : WM GX (d + 3) b mX1_isFitting [vR (some 38), vR (some o), vI x2, vI x3] h Q := by
  have I1 := A.2.2.1
  have I2 := A.2.2.2.1 x2 hd.1 hd.2
  have I5 := A.2.2.2.2.2.2.1 x3 hh.1 hh.2
  have c1 : 0 ≤ r (23 + x2) ∧ r (23 + x2) ≤ 999 ∧ 1 ≤ r (72 + x2) ∧ r (72 + x2) ≤ 9 := by omega
  clear I2
  have b2 : 0 ≤ x2 ∧ x2 < 8 := by omega
  have b3 : 0 ≤ x3 ∧ x3 < 8 := by omega
  have ew := A.1.wide b2
  have es := A.1.size b3
  have K0 : rHas r = 0 → (0 ≤ x2 ∧ x2 < 8) ∧ (0 ≤ x3 ∧ x3 < 8) ∧ R32 ((gi h (o + 2) x2) - (gi h (o + 1) x3)) ∧ R32 (-((gi h (o + 2) x2) - (gi h (o + 1) x3))) ∧ (1 < zabs ((gi h (o + 2) x2) - (gi h (o + 1) x3)) → Q (some (vI 0)) h) ∧ (¬(1 < zabs ((gi h (o + 2) x2) - (gi h (o + 1) x3))) → Q (some (vI 1)) h) := fun z => by
    rw [zabs_1, ← ew, ← es]
    refine ⟨b2, b3, by omega, by omega, fun w => qb_f (k h JX.rfl') ?_, fun w => qb_t (k h JX.rfl') ?_⟩
    · unfold rFits; rw [if_pos z]; exact w
    · unfold rFits; rw [if_pos z]; exact Decidable.not_not.mp w
  refine w_X1_isFitting ho (c_X0_lawInForce ho A (fun u L => ⟨u, rfl, fun z => ?_, fun t z => ?_⟩))
  · refine K0 ?_
    rcases L with ⟨-, l2⟩ | ⟨t, l1, l2, -⟩
    · unfold rHas; rw [if_pos l2]
    · rw [z] at l1; cases l1
  · have L' := L
    rcases L with ⟨l1, -⟩ | ⟨t', l1, l2, T⟩
    · rw [z] at l1; cases l1
    rw [z] at l1
    cases l1
    have t1 := T
    obtain ⟨t1, t2, t3, -⟩ := t1
    have hr : rHas r = mHas (lawC r (r 4)) (lawC r (r 4) 1).toNat := by unfold rHas; rw [if_neg l2]
    refine ⟨Or.inr ⟨t3, t2⟩, c_X5_has T ⟨_, rfl, fun w => K0 (hr.trans w), fun w => ?_⟩⟩
    refine c_X1_learnOf ho A hd (by omega) (fun h1 J1 F1 => ⟨rfl, ?_⟩)
    rw [z] at L'
    refine c_X1_lastTold (L'.vx J1.same.1) A.2.2 (A.2.2.env hd (by omega) (by omega) (by omega) (by omega)) F1 (fun h2 V2 => ⟨_, rfl, fun v => ?_, fun v => ?_⟩)
    · exact qb_t (k h2 (J1.trans V2.j)) (by unfold rFits; rw [if_neg (by rw [hr]; exact w)]; exact v)
    · exact qb_f (k h2 (J1.trans V2.j)) (by unfold rFits; rw [if_neg (by rw [hr]; exact w)]; exact v)
