/-! one sum of orders on both sides -/
theorem opnR_R {r : Int → Int} (V : InvR r) : 0 ≤ opnR r ∧ opnR r ≤ 8 := by
  have I1 := V.1
  have := sumZ_le (f := fun i => b2i (dOf r i = -1)) (m := 1) (r 0).toNat 0 (fun j _ _ => by
    have := b2i_01 (dOf r j = -1)
    show 0 ≤ b2i (dOf r j = -1) ∧ b2i (dOf r j = -1) ≤ 1
    omega)
  unfold opnR
  omega
theorem envO_R {r : Int → Int} {dn lt : Int} (V : InvR r) (hd : 0 ≤ dn ∧ dn ≤ 1000) (hl : -1 ≤ lt ∧ lt ≤ 1000000) : ∀ i, okF 37 i → -1000000000 ≤ envO r dn lt i ∧ envO r dn lt i ≤ 1000000000 := by
  intro i hi
  have I1 := V.1
  have o := opnR_R V
  unfold envO
  by_cases c1 : i = 9
  · rw [if_pos c1]; omega
  rw [if_neg c1]
  by_cases c2 : i = 11
  · rw [if_pos c2]; omega
  rw [if_neg c2]
  by_cases c3 : i = 12
  · rw [if_pos c3]; omega
  rw [if_neg c3]
  by_cases c4 : i = 13
  · rw [if_pos c4]; omega
  rw [if_neg c4]
  by_cases c5 : i < 22
  · rw [if_pos c5]
    by_cases c : i - 14 < r 1
    · have W := V.2.1 (i - 14) (by omega) c
      rw [if_pos c]
      omega
    · rw [if_neg c]; omega
  rw [if_neg c5]
  by_cases c6 : i < 30
  · rw [if_pos c6]
    by_cases c : i - 22 < r 1
    · have W := V.2.1 (i - 22) (by omega) c
      rw [if_pos c]
      omega
    · rw [if_neg c]; omega
  rw [if_neg c6]
  by_cases c : i - 30 < r 1
  · have W := V.2.1 (i - 30) (by omega) c
    rw [if_pos c]
    omega
  · rw [if_neg c]; omega
/-- facts that are those of orders -/
def EvO (r : Int → Int) (dn lt : Int) (F : Int → Int) : Prop := ∀ i, okF 37 i → F i = envO r dn lt i
theorem EvO.ok {r F : Int → Int} {dn lt : Int} (E : EvO r dn lt F) (V : InvR r) (hd : 0 ≤ dn ∧ dn ≤ 1000) (hl : -1 ≤ lt ∧ lt ≤ 1000000) : EnvOk 37 F := fun i hi => by
  rw [E i hi]
  exact envO_R V hd hl i hi
section SUMO
variable {d b : Nat} {Q : Option AV → AH → Prop} {h : AH} {r F : Int → Int} {dn lt : Int}
/-- the class's value of a sum of its draft -/
theorem c_valO {x : Vl} {v : Int} (e3 : rf h 35 3 = some 37) (len : 0 ≤ gi h 35 2 ∧ gi h 35 2 ≤ 872) (W : WfR 37 (gi h 37) 0 (gi h 35 2)) (E : EnvOk 37 (gi h 39)) (S : (0 ≤ v ∧ v % 2 = 0) ∧ SegX 1 (gi h 37) (gi h 35 2) v x) (K : ∀ h', VX h h' → Q (some (vI (match x (gi h 39) with | none => -2000000000 | some w => w))) h') : WM GX (d + 1) b mX1_value [vR (some 38), vR (some 35), vI v] h Q := by
  obtain ⟨ln, el⟩ : ∃ ln : Nat, gi h 35 2 = ln := ⟨(gi h 35 2).toNat, by omega⟩
  rw [el] at W S
  obtain ⟨⟨v0, v1⟩, g, D, X1, X2, X3, X4, X5⟩ := S
  have xf := X1.1
  have xx := X1.2.2 (gi h 37) (fun _ _ _ => rfl) (gi h 39) E ln [] ln (by omega) (by rw [List.length_nil]; omega) (by omega)
  refine c_X1_valueD (t := 35) (s := 37) (ns := 872) (Or.inl rfl) e3 (Or.inl rfl) (by decide) (by decide) el (by omega) (by decide) W (by decide) E v1 (by omega) (fun h' V => ?_)
  have := K h' V
  rcases xx with ⟨x1, x2⟩ | ⟨w, f2, x1, x2, x3⟩
  · rw [x1] at this
    rw [x2]
    exact this
  · rw [x1] at this
    rw [x3]
    match f2, x2 with
    | 0, x2 => omega
    | f2 + 1, x2 =>
      rw [xEv_stop (by omega) X3]
      exact this
/-- the reference while it runs orders: its words -/
def WdM (h : AH) (r : Int → Int) (dn lt : Int) : Prop := gi h 2 = r ∧ gl h 19 1 = r 5 ∧ gl h 19 2 = dn ∧ gl h 19 3 = lt ∧ gl h 19 4 = opnR r
def FmS (a h : AH) : Prop := (∀ q k, ¬ (q = 0 ∧ (k = 38 ∨ k = 53 ∨ k = 20)) → gi h q k = gi a q k) ∧ gi h 0 20 = gi a 0 20 ∧ ∀ q k, q ≠ 20 → ¬ (q = 0 ∧ (k = 39 ∨ k = 40)) → gl h q k = gl a q k
theorem envO_at {a : Int} (ha : 0 ≤ a ∧ a ≤ 7) : envO r dn lt (14 + a) = (if a < r 1 then r (15 + a) else -1) ∧ envO r dn lt (22 + a) = (if a < r 1 then r (7 + a) else -1) ∧ envO r dn lt (30 + a) = (if a < r 1 then r (23 + a) else 0) := by
  have n : ∀ z : Int, 14 ≤ z → envO r dn lt z = (if z < 22 then (if z - 14 < r 1 then r (15 + (z - 14)) else -1) else if z < 30 then (if z - 22 < r 1 then r (7 + (z - 22)) else -1) else (if z - 30 < r 1 then r (23 + (z - 30)) else 0)) := fun z hz => by
    unfold envO
    have c1 : ¬ z = 9 := by omega
    have c2 : ¬ z = 11 := by omega
    have c3 : ¬ z = 12 := by omega
    have c4 : ¬ z = 13 := by omega
    rw [if_neg c1, if_neg c2, if_neg c3, if_neg c4]
  have c1 : 14 + a < 22 := by omega
  have c2 : ¬ 22 + a < 22 := by omega
  have c3 : 22 + a < 30 := by omega
  have c4 : ¬ 30 + a < 22 := by omega
  have c5 : ¬ 30 + a < 30 := by omega
  refine ⟨?_, ?_, ?_⟩
  · rw [n _ (by omega), if_pos c1, show 14 + a - 14 = a by omega]
  · rw [n _ (by omega), if_neg c2, if_pos c3, show 22 + a - 22 = a by omega]
  · rw [n _ (by omega), if_neg c4, if_neg c5, show 30 + a - 30 = a by omega]
theorem lfO {F' op arg : Int → Int} {k : Int} (W : WdM h r dn lt) (E : EvO r dn lt F) (r1 : 0 ≤ r 1 ∧ r 1 ≤ 8) (ho : 0 ≤ op k ∧ op k < 8) (ha : okA 37 (op k) (arg k)) : lfM (fiX 1) op arg F k = if op k = 0 then arg k else if op k < 5 then gl h 19 (op k) else if 0 ≤ arg k ∧ arg k < gi h 2 1 then (if op k = 5 then gi h 2 (15 + arg k) else if op k = 6 then gi h 2 (7 + arg k) else gi h 2 (23 + arg k)) else if op k < 7 then -1 else 0 := by
  obtain ⟨w0, w1, w2, w3, w4⟩ := W
  unfold lfM
  rw [w0]
  generalize op k = o at *
  generalize arg k = a at *
  have c : o = 0 ∨ o = 1 ∨ o = 2 ∨ o = 3 ∨ o = 4 ∨ o = 5 ∨ o = 6 ∨ o = 7 := by omega
  rcases c with c | c | c | c | c | c | c | c <;> subst c
  · rfl
  · rw [show fiX 1 1 a = 9 by rfl, E 9 (by decide)]
    exact w1.symm
  · rw [show fiX 1 2 a = 11 by rfl, E 11 (by decide)]
    exact w2.symm
  · rw [show fiX 1 3 a = 12 by rfl, E 12 (by decide)]
    exact w3.symm
  · rw [show fiX 1 4 a = 13 by rfl, E 13 (by decide)]
    exact w4.symm
  · rw [show fiX 1 5 a = 14 + a by rfl, E (14 + a) (by omega), (envO_at (by omega)).1]
    show (if a < r 1 then r (15 + a) else -1) = (if 0 ≤ a ∧ a < r 1 then r (15 + a) else -1)
    by_cases z : a < r 1
    · have z' : 0 ≤ a ∧ a < r 1 := by omega
      rw [if_pos z, if_pos z']
    · have z' : ¬ (0 ≤ a ∧ a < r 1) := by omega
      rw [if_neg z, if_neg z']
  · rw [show fiX 1 6 a = 22 + a by rfl, E (22 + a) (by omega), (envO_at (by omega)).2.1]
    show (if a < r 1 then r (7 + a) else -1) = (if 0 ≤ a ∧ a < r 1 then r (7 + a) else -1)
    by_cases z : a < r 1
    · have z' : 0 ≤ a ∧ a < r 1 := by omega
      rw [if_pos z, if_pos z']
    · have z' : ¬ (0 ≤ a ∧ a < r 1) := by omega
      rw [if_neg z, if_neg z']
  · rw [show fiX 1 7 a = 30 + a by rfl, E (30 + a) (by omega), (envO_at (by omega)).2.2]
    show (if a < r 1 then r (23 + a) else 0) = (if 0 ≤ a ∧ a < r 1 then r (23 + a) else 0)
    by_cases z : a < r 1
    · have z' : 0 ≤ a ∧ a < r 1 := by omega
      rw [if_pos z, if_pos z']
    · have z' : ¬ (0 ≤ a ∧ a < r 1) := by omega
      rw [if_neg z, if_neg z']
theorem fi_ok {o a : Int} (ho : 0 ≤ o ∧ o < 8) (h0 : ¬ o = 0) (ha : okA 37 o a) : okF 37 (fiX 1 o a) := by
  have c : o = 1 ∨ o = 2 ∨ o = 3 ∨ o = 4 ∨ o = 5 ∨ o = 6 ∨ o = 7 := by omega
  rcases c with c | c | c | c | c | c | c <;> subst c
  · exact (by decide : okF 37 9)
  · exact (by decide : okF 37 11)
  · exact (by decide : okF 37 12)
  · exact (by decide : okF 37 13)
  · show okF 37 (14 + a)
    omega
  · show okF 37 (22 + a)
    omega
  · show okF 37 (30 + a)
    omega
theorem c_sumO {x : Vl} {a : Int} (W : WdM h r dn lt) (E : EvO r dn lt F) (V : InvR r) (hd : 0 ≤ dn ∧ dn ≤ 1000) (hl : -1 ≤ lt ∧ lt ≤ 1000000) (A : AllC 1 (codeH h)) (ha : 0 ≤ a ∧ a + 1 < 96) (R : RgM 1 (codeH h) (gi h 29) a (some x)) (vb : ∀ w, x F = some w → -1000000000 ≤ w ∧ w ≤ 1000000000) (h20 : gi h 0 20 = 0) (h53 : gi h 0 53 = 0)
    (kN : x F = none → ∀ h' u, FmS h h' → gi h' 0 53 = 1 → Q (some (vI u)) h') (kS : ∀ w, x F = some w → ∀ h', FmS h h' → gi h' 0 53 = 0 → Q (some (vI w)) h') : WM GM (d + 3) b mX8_sumOf [vR (some 0), vI a] h Q := by
  obtain ⟨p1, p2, p3, p4⟩ := R
  have p5 := p4.2.1
  have I1 := V.1
  have EK := E.ok V hd hl
  obtain ⟨w0, w1, w2, w3, w4⟩ := W
  refine w_X8_sumOf ⟨fun _ => ⟨by omega, by omega, by omega, fun z => by omega, fun _ => l_X8_sumOf_26 (fun h1 z1 => ⟨by omega, by omega, by omega, ?_⟩)⟩, fun z => absurd h53 z⟩
  have g1 : ∀ q k, ¬ (q = 0 ∧ k = 20) → gi h1 q k = gi h q k := fun q k z => by rw [z1, gi_ne (by omega)]
  have W2 : WdM (si h1 0 38 0) r dn lt := by
    rw [z1]
    exact ⟨(giF_no (by decide)).trans ((giF_no (by decide)).trans w0), w1, w2, w3, w4⟩
  have lf : ∀ k, 0 ≤ k → k < gi h 29 (a + 1) → gi h 11 k < 20 → (0 ≤ gi h 11 k ∧ gi h 11 k < 8) ∧ okA 37 (gi h 11 k) (gi h 12 k) := fun k k0 k1 k2 => by
    have q := A k k0 (by show k < gi h 0 23; have : gi h 29 (a + 1) ≤ gi h 0 23 := p2; omega)
    have q2 := q.2.2 k2
    have l7 : lim (mX 1) = 7 := rfl
    exact ⟨⟨q.1, by have : gi h 11 k ≤ lim (mX 1) := q2.1; omega⟩, q2.2⟩
  have m := p4.2.2.2 (gi h 11) (gi h 12) (fun _ _ _ => ⟨rfl, rfl⟩) F EK (gi h 29 (a + 1)) [] 400 (Int.le_refl _) (by omega)
  have fin : ∀ h2, FM h1 h2 → FmS h (si (si h2 0 20 0) 0 53 (gi h2 0 38)) := fun h2 F2 => ⟨fun q k z => by rw [gi_ne (by omega), gi_ne (by omega), F2.1 q k (by omega), g1 q k (by omega)], by rw [gi_nk (by decide), gi_eq, h20], fun q k z1' z2' => by
    show gl h2 q k = _
    rw [F2.2 q k z1' z2', z1]
    rfl⟩
  obtain ⟨res, hE, hres⟩ : ∃ res, mEv (gi h 11) (gi h 12) (lfM (fiX 1) (gi h 11) (gi h 12) F) (gi h 29 (a + 1)) 400 (gi h 29 a) [] = some res ∧ ((x F = none ∧ res = none) ∨ ∃ w, x F = some w ∧ res = some [w]) := by
    rcases m with ⟨m1, m2⟩ | ⟨w, f', m1, m2, m3⟩
    · exact ⟨none, m2, Or.inl ⟨m1, rfl⟩⟩
    · refine ⟨some [w], ?_, Or.inr ⟨w, m1, rfl⟩⟩
      rw [m3]
      match f', m2 with
      | 0, m2 => omega
      | f' + 1, m2 => exact mEv_end (by omega) (by omega)
  refine c_X8_reckonL (op := gi h 11) (arg := gi h 12) (leaf := lfM (fiX 1) (gi h 11) (gi h 12) F) ⟨?_, ?_, ?_, fun k k0 k1 => ⟨?_, ?_, ?_, fun k2 => ?_⟩⟩ (fun k k0 k1 k2 => ?_) (by have : gi h 29 (a + 1) ≤ gi h 0 23 := p2; have : gi h 0 23 < 400 := p3; omega) hE (fun h2 F2 rr => ⟨rfl, fun h3 z3 => ⟨?_, fun h4 z4 => ?_⟩⟩)
  · rw [z1, gi_nk (by decide), gi_eq]
  · rw [W2.1]; omega
  · rw [W2.1]; omega
  · rw [gi_no (by decide), g1 _ _ (by omega)]
  · rw [gi_no (by decide), g1 _ _ (by omega)]
  · exact (A k k0 (by show k < gi h 0 23; have : gi h 29 (a + 1) ≤ gi h 0 23 := p2; omega)).1
  · obtain ⟨q1, q2⟩ := lf k k0 k1 k2
    exact ⟨q1.2, lfO (F' := F) W2 E (by omega) q1 q2⟩
  · obtain ⟨q1, q2⟩ := lf k k0 k1 k2
    unfold lfM
    by_cases c : gi h 11 k = 0
    · rw [if_pos c]
      exact q2.1
    · rw [if_neg c]
      exact EK _ (fi_ok q1 c q2)
  · rcases rr with ⟨s, r1, r2, r3⟩ | ⟨r1, r2⟩
    · exact Or.inl r2
    · exact Or.inr r2
  · subst z4 z3
    have FF := fin h2 F2
    rcases hres with ⟨x1, x2⟩ | ⟨w, x1, x2⟩
    · rcases rr with ⟨s, r1, r2, r3⟩ | ⟨r1, r2⟩
      · rw [x2] at r1
        cases r1
      · exact kN x1 _ _ FF (by rw [gi_eq, r2])
    · rcases rr with ⟨s, r1, r2, r3⟩ | ⟨r1, r2⟩
      · rw [x2] at r1
        cases r1
        have wb := vb w x1
        have e : gl h2 0 39 = w := r3
        rw [e, zl2i_e (by omega)]
        exact kS w x1 _ FF (by rw [gi_eq, r2])
      · rw [x2] at r1
        cases r1
end SUMO
