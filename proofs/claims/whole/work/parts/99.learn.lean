/-! what the words of orders tell -/
def opnR (r : Int → Int) : Int := sumZ (fun i => b2i (dOf r i = -1)) (r 0).toNat 0
def envO (r : Int → Int) (dn lt : Int) (i : Int) : Int := if i = 9 then r 5 else if i = 11 then dn else if i = 12 then lt else if i = 13 then opnR r else if i < 22 then (if i - 14 < r 1 then r (15 + (i - 14)) else -1) else if i < 30 then (if i - 22 < r 1 then r (7 + (i - 22)) else -1) else (if i - 30 < r 1 then r (23 + (i - 30)) else 0)
def LrI (r : Int → Int) (dn lt : Int) (h : AH) (y : Int) : Prop := (gi h 39 9 = r 5 ∧ gi h 39 11 = dn ∧ gi h 39 12 = lt ∧ gi h 39 13 = opnR r) ∧ ∀ a, 0 ≤ a → a < y → gi h 39 (14 + a) = (if a < r 1 then r (15 + a) else -1) ∧ gi h 39 (22 + a) = (if a < r 1 then r (7 + a) else -1) ∧ gi h 39 (30 + a) = (if a < r 1 then r (23 + a) else 0)
theorem LrI.env {r : Int → Int} {dn lt : Int} {h : AH} (I : LrI r dn lt h 8) : ∀ i, okF 37 i → gi h 39 i = envO r dn lt i := by
  obtain ⟨⟨i1, i2, i3, i4⟩, I⟩ := I
  intro i hi
  unfold envO
  by_cases c1 : i = 9
  · rw [if_pos c1, c1, i1]
  rw [if_neg c1]
  by_cases c2 : i = 11
  · rw [if_pos c2, c2, i2]
  rw [if_neg c2]
  by_cases c3 : i = 12
  · rw [if_pos c3, c3, i3]
  rw [if_neg c3]
  by_cases c4 : i = 13
  · rw [if_pos c4, c4, i4]
  rw [if_neg c4]
  by_cases c5 : i < 22
  · rw [if_pos c5, ← (I (i - 14) (by omega) (by omega)).1]
    congr 1
    omega
  rw [if_neg c5]
  by_cases c6 : i < 30
  · rw [if_pos c6, ← (I (i - 22) (by omega) (by omega)).2.1]
    congr 1
    omega
  rw [if_neg c6, ← (I (i - 30) (by omega) (by omega)).2.2]
  congr 1
  omega
section LEARN
variable {d b : Nat} {Q : Option AV → AH → Prop} {h0 : AH} {o : Nat} {r : Int → Int} {dn lt : Int}
theorem opn_x (ho : isl o) (A : RA h0 o r) : sumZ (fun i => b2i (dIn (gi h0 (o + 6)) i (gi h0 o 2).toNat 0 = -1)) (gi h0 o 0).toNat 0 = opnR r := by
  have I1 := A.2.2.1
  unfold opnR
  rw [← A.1.houses]
  refine sumZ_congr _ _ (fun j j0 j1 => b2i_c ?_)
  unfold dOf
  rw [← A.1.doors, dIn_congr (f := fun i => r (7 + i)) (g := gi h0 (o + 6)) _ _ (fun k k0 k1 => A.1.hangs (by omega))]
theorem lp_learn (ho : isl o) (A : RA h0 o r) (K : ∀ h', JX h0 h' → LrI r dn lt h' 8 → Q none h') : ∀ (f : Nat) (y : Int) (h : AH), y + f = 8 → 0 ≤ y → JX h0 h → LrI r dn lt h y → Lp_X1_learn_41 d b Q o y h
  | 0, y, h, e, y0, F, I => by
    have : y = 8 := by omega
    subst this
    exact l_X1_learn_41 ho ⟨fun _ => K h F I, fun z => by omega⟩
  | f + 1, y, h, e, y0, F, I => by
    have oi : o + 8 < 39 ∨ 50 ≤ o := by rcases ho with z | z | z | z <;> omega
    have e2 : ∀ h', JX h0 h' → gi h' o 2 = r 1 := fun h' F' => (F'.1 _ _ (by omega) (by omega)).trans A.1.doors.symm
    have e7 : ∀ h', JX h0 h' → gi h' (o + 7) y = r (15 + y) := fun h' F' => (F'.1 _ _ (by omega) (by omega)).trans (A.1.cell (by omega)).symm
    have e6 : ∀ h', JX h0 h' → gi h' (o + 6) y = r (7 + y) := fun h' F' => (F'.1 _ _ (by omega) (by omega)).trans (A.1.hangs (by omega)).symm
    have e8 : ∀ h', JX h0 h' → gi h' (o + 8) y = r (23 + y) := fun h' F' => (F'.1 _ _ (by omega) (by omega)).trans (A.1.caught (by omega)).symm
    have st4 : ∀ h', JX h0 h' → LrI r dn lt h' (y + 1) → Lp_X1_learn_134 d b Q o y h' := fun h' F' I' => l_X1_learn_134 ho ⟨by omega, lp_learn ho A K f (y + 1) h' (by omega) (by omega) F' I'⟩
    have st : ∀ v1 v2 v3 : Int, v1 = (if y < r 1 then r (15 + y) else -1) → v2 = (if y < r 1 then r (7 + y) else -1) → v3 = (if y < r 1 then r (23 + y) else 0) → LrI r dn lt (si (si (si h 39 (14 + y) v1) 39 (22 + y) v2) 39 (30 + y) v3) (y + 1) := fun v1 v2 v3 w1 w2 w3 => by
      have k : ∀ z : Int, z ≠ 14 + y → z ≠ 22 + y → z ≠ 30 + y → gi (si (si (si h 39 (14 + y) v1) 39 (22 + y) v2) 39 (30 + y) v3) 39 z = gi h 39 z := fun z a1 a2 a3 => by rw [gi_nk a3, gi_nk a2, gi_nk a1]
      obtain ⟨⟨i1, i2, i3, i4⟩, I⟩ := I
      refine ⟨⟨by rw [k _ (by omega) (by omega) (by omega)]; exact i1, by rw [k _ (by omega) (by omega) (by omega)]; exact i2, by rw [k _ (by omega) (by omega) (by omega)]; exact i3, by rw [k _ (by omega) (by omega) (by omega)]; exact i4⟩, fun a a0 a1 => ?_⟩
      by_cases c : a = y
      · subst c
        exact ⟨by rw [gi_nk (by omega), gi_nk (by omega), gi_eq]; exact w1, by rw [gi_nk (by omega), gi_eq]; exact w2, by rw [gi_eq]; exact w3⟩
      · rw [k _ (by omega) (by omega) (by omega), k _ (by omega) (by omega) (by omega), k _ (by omega) (by omega) (by omega)]
        exact I a a0 (by omega)
    refine l_X1_learn_41 ho ⟨fun z => by omega, fun _ => ?_⟩
    rw [e2 h F]
    by_cases c : y < r 1
    · refine ⟨by omega, fun _ => ⟨by omega, by omega, fun h1 z1 => ?_⟩, fun z => by omega⟩
      rw [e7 h F] at z1
      have F1 : JX h0 h1 := by rw [z1]; exact F.si
      refine l_X1_learn_82 ho ⟨by omega, fun z => absurd (b2i_0.mp z) (by omega), fun _ => ⟨by omega, by omega, fun h2 z2 => ?_⟩⟩
      rw [e6 h1 F1] at z2
      have F2 : JX h0 h2 := by rw [z2]; exact F1.si
      refine l_X1_learn_108 ho ⟨by omega, fun z => absurd (b2i_0.mp z) (by omega), fun _ => ⟨by omega, by omega, fun h3 z3 => ?_⟩⟩
      rw [e8 h2 F2] at z3
      refine st4 h3 (by rw [z3]; exact F2.si) ?_
      rw [z3, z2, z1]
      exact st _ _ _ (by rw [if_pos c]) (by rw [if_pos c]) (by rw [if_pos c])
    · refine ⟨by omega, fun z => by omega, fun _ => ⟨by omega, fun h1 z1 => ?_⟩⟩
      have F1 : JX h0 h1 := by rw [z1]; exact F.si
      refine l_X1_learn_82 ho ⟨by omega, fun _ => ⟨by omega, fun h2 z2 => ?_⟩, fun z => absurd (b2i_0.mpr (by omega)) z⟩
      have F2 : JX h0 h2 := by rw [z2]; exact F1.si
      refine l_X1_learn_108 ho ⟨by omega, fun _ => ⟨by omega, fun h3 z3 => ?_⟩, fun z => absurd (b2i_0.mpr (by omega)) z⟩
      refine st4 h3 (by rw [z3]; exact F2.si) ?_
      rw [z3, z2, z1]
      exact st _ _ _ (by rw [if_neg c]) (by rw [if_neg c]) (by rw [if_neg c])
theorem c_X1_learn (ho : isl o) (A : RA h0 o r) (K : ∀ h', JX h0 h' → (∀ i, okF 37 i → gi h' 39 i = envO r dn lt i) → Q none h') : WM GX (d + 2) b mX1_learn [vR (some 38), vR (some o), vI dn, vI lt] h0 Q := by
  have I1 := A.2.2.1
  have oi : o + 8 < 39 ∨ 50 ≤ o := by rcases ho with z | z | z | z <;> omega
  refine w_X1_learn ho (fun h1 z1 h2 z2 h3 z3 => ?_)
  have F3 : JX h0 h3 := by rw [z3, z2, z1]; exact ((JX.rfl'.si).si).si
  have A3 : RA h3 o r := A.to (fun c hc k => F3.1 _ _ (by rcases ho with z | z | z | z <;> omega) (by rcases ho with z | z | z | z <;> omega)) ⟨Nat.le_of_eq F3.2.2.2.symm, fun q q0 q1 => ⟨by rw [F3.2.2.1], fun k => F3.1 q k (by omega) (by omega), fun k => by rw [F3.2.1]⟩⟩ (fun i => by rw [F3.2.1])
  rw [opn_x ho A3]
  refine ⟨by rw [← A3.1.doors, ← A3.1.houses]; omega, fun h4 z4 => lp_learn ho A (fun h' F' I' => K h' F' I'.env) 8 0 h4 (by decide) (Int.le_refl _) (by rw [z4]; exact F3.si) ⟨⟨?_, ?_, ?_, ?_⟩, fun a a0 a1 => by omega⟩⟩
  · rw [z4, z3, z2, z1, gi_nk (by decide), gi_nk (by decide), gi_nk (by decide), gi_eq]
    exact A.1.day.symm
  · rw [z4, z3, z2, gi_nk (by decide), gi_nk (by decide), gi_eq]
  · rw [z4, z3, gi_nk (by decide), gi_eq]
  · rw [z4, gi_eq]
end LEARN
