/-! what stays of the relation when one side or both write -/
def up1 (r : Int → Int) (k v : Int) : Int → Int := fun j => if j = k then v else r j
theorem up1_eq {r : Int → Int} {k v : Int} : up1 r k v k = v := if_pos rfl
theorem up1_ne {r : Int → Int} {k v j : Int} (h : j ≠ k) : up1 r k v j = r j := if_neg h
theorem gi_o {h : AH} {a q : Nat} {i v : Int} (e : q ≠ a) : gi (si h a i v) q = gi h q := by funext k; rw [gi_si, if_neg (fun z => e z.1)]
theorem gi_self {h : AH} {a : Nat} {i v : Int} : gi (si h a i v) a = up1 (gi h a) i v := by
  funext k
  rw [gi_si]
  unfold up1
  by_cases e : k = i
  · rw [if_pos ⟨rfl, e⟩, if_pos e]
  · rw [if_neg (fun z => e z.2), if_neg e]
/-- objects made later stay -/
def DynX (h h' : AH) : Prop := hn h ≤ hn h' ∧ ∀ q, 77 ≤ q → q < hn h → kd h' q = kd h q ∧ (∀ k, gi h' q k = gi h q k) ∧ ∀ k, rf h' q k = rf h q k
theorem DynX.rfl' {h : AH} : DynX h h := ⟨Nat.le_refl _, fun _ _ _ => ⟨rfl, fun _ => rfl, fun _ => rfl⟩⟩
theorem DynX.trans {h1 h2 h3 : AH} (a : DynX h1 h2) (b : DynX h2 h3) : DynX h1 h3 := ⟨Nat.le_trans a.1 b.1, fun q h q2 => by
  obtain ⟨a1, a2, a3⟩ := a.2 q h q2
  obtain ⟨b1, b2, b3⟩ := b.2 q h (Nat.lt_of_lt_of_le q2 a.1)
  exact ⟨b1.trans a1, fun k => (b2 k).trans (a2 k), fun k => (b3 k).trans (a3 k)⟩⟩
theorem DynX.si {h0 h : AH} (e : DynX h0 h) {a : Nat} {i v : Int} (ha : a < 77) : DynX h0 (si h a i v) := e.trans ⟨Nat.le_refl _, fun q h1 _ => ⟨rfl, fun k => by rw [gi_o (by omega)], fun _ => rfl⟩⟩
theorem DynX.cpy {h0 h : AH} (e : DynX h0 h) {a b : Nat} {i j n : Int} (hb : b < 77) : DynX h0 (cpy h a i b j n) := e.trans ⟨Nat.le_refl _, fun q h1 _ => ⟨rfl, fun k => by rw [gi_cpy, if_neg (by omega)], fun _ => rfl⟩⟩
theorem DynX.sr {h0 h : AH} (e : DynX h0 h) {a : Nat} {i : Int} {v : Option Nat} (ha : a < 77) : DynX h0 (sr h a i v) := e.trans ⟨Nat.le_refl _, fun q h1 _ => ⟨rfl, fun _ => rfl, fun k => by rw [rf_sr, if_neg (by omega)]⟩⟩
theorem TxtR.dyn {h h' : AH} {t : Nat} {c : Int → Int} (H : TxtR h t c) (e : DynX h h') : TxtR h' t c := by
  obtain ⟨h1, h2, h3, a, s, na, ns, a1, a2, a3, a4, a5, a6, a7, a8, a9, b1, b2, b3, b4, b5, b6, b7⟩ := H
  obtain ⟨t1, t2, t3⟩ := e.2 t h1 h2
  obtain ⟨u1, u2, u3⟩ := e.2 a a1 a3
  obtain ⟨v1, v2, v3⟩ := e.2 s a2 a4
  have es : gi h' s = gi h s := funext v2
  refine ⟨h1, Nat.lt_of_lt_of_le h2 e.1, t1.trans h3, a, s, na, ns, a1, a2, Nat.lt_of_lt_of_le a3 e.1, Nat.lt_of_lt_of_le a4 e.1, (t3 1).trans a5, (t3 3).trans a6, u1.trans a7, v1.trans a8, a9, b1, (t2 0).trans b2, b3, b4, (t2 2).trans b5, b6, ?_⟩
  simp only [u2, es]
  exact b7
theorem TxtR.c {h : AH} {t : Nat} {c c' : Int → Int} (H : TxtR h t c) (e : c' = c) : TxtR h t c' := e ▸ H
theorem RTx.to {h h' : AH} {o : Nat} {r r' : Int → Int} (H : RTx h o r) (e : DynX h h') (e1 : ∀ i, 0 ≤ i → i < r 3 → rf h' (o + 12) i = rf h (o + 12) i) (e2 : r' 3 = r 3) (e3 : ∀ j, 140 ≤ j → r' j = r j) : RTx h' o r' := by
  intro i h0 h1
  rw [e2] at h1
  obtain ⟨t, q1, q2⟩ := H i h0 h1
  refine ⟨t, (e1 i h0 h1).trans q1, ?_⟩
  rw [lawC_eq h0 e3]
  exact q2.dyn e
theorem RIs.to {h h' : AH} {o : Nat} {r : Int → Int} (H : RIs h o r) (e : ∀ c, c ≤ 12 → ∀ k, gi h' (o + c) k = gi h (o + c) k) : RIs h' o r := by
  intro k hk
  have hla : la k ≤ 12 := by
    unfold la
    repeat' split
    all_goals omega
  rw [e _ hla]
  exact H k hk
theorem la_le (k : Int) : la k ≤ 12 := by
  unfold la
  repeat' split
  all_goals omega
/-- both sides write the same at places that belong together -/
theorem RIs.set {h : AH} {o a : Nat} {r : Int → Int} (H : RIs h o r) {k i v : Int} (hk : okP k) (ha : a = o + la k) (hi : i = lb k) : RIs (si h a i v) o (up1 r k v) := by
  intro j hj
  subst ha
  subst hi
  by_cases e : j = k
  · subst e
    rw [up1_eq, gi_eq]
  · rw [up1_ne e, H j hj, gi_si, if_neg]
    intro z
    exact e (lab_inj hj hk (by omega) z.2)
/-- the reference alone writes, where the isle has no place -/
theorem RIs.setM {h : AH} {o : Nat} {r : Int → Int} (H : RIs h o r) {k v : Int} (hk : ¬ okP k) : RIs h o (up1 r k v) := by
  intro j hj
  have e : j ≠ k := fun e => hk (by rw [← e]; exact hj)
  rw [up1_ne e]
  exact H j hj
theorem RIs.setX {h : AH} {o a : Nat} {r : Int → Int} (H : RIs h o r) {i v : Int} (ha : ∀ c, c ≤ 12 → a ≠ o + c) : RIs (si h a i v) o r := H.to fun c hc k => by rw [gi_o (fun z => ha c hc z.symm)]
theorem okP_s {k : Int} (h : (0 ≤ k ∧ k < 31) ∨ (39 ≤ k ∧ k < 137)) : okP k := h
section ACC
variable {h : AH} {o : Nat} {r : Int → Int}
theorem RIs.hangs (H : RIs h o r) {d : Int} (h0 : 0 ≤ d ∧ d < 8) : r (7 + d) = gi h (o + 6) d := by
  have e := H (7 + d) (by unfold okP; omega)
  have e1 : la (7 + d) = 6 := by
    unfold la
    rw [if_neg (by omega), if_pos (by omega)]
  have e2 : lb (7 + d) = d := by
    unfold lb
    rw [if_neg (by omega), if_pos (by omega)]
    omega
  rw [e1, e2] at e
  exact e
theorem RIs.cell (H : RIs h o r) {d : Int} (h0 : 0 ≤ d ∧ d < 8) : r (15 + d) = gi h (o + 7) d := by
  have e := H (15 + d) (by unfold okP; omega)
  have e1 : la (15 + d) = 7 := by
    unfold la
    rw [if_neg (by omega), if_neg (by omega), if_pos (by omega)]
  have e2 : lb (15 + d) = d := by
    unfold lb
    rw [if_neg (by omega), if_neg (by omega), if_pos (by omega)]
    omega
  rw [e1, e2] at e
  exact e
theorem RIs.caught (H : RIs h o r) {d : Int} (h0 : 0 ≤ d ∧ d < 8) : r (23 + d) = gi h (o + 8) d := by
  have e := H (23 + d) (by unfold okP; omega)
  have e1 : la (23 + d) = 8 := by
    unfold la
    rw [if_neg (by omega), if_neg (by omega), if_neg (by omega), if_pos (by omega)]
  have e2 : lb (23 + d) = d := by
    unfold lb
    rw [if_neg (by omega), if_neg (by omega), if_neg (by omega), if_pos (by omega)]
    omega
  rw [e1, e2] at e
  exact e
theorem RIs.fish (H : RIs h o r) {d : Int} (h0 : 0 ≤ d ∧ d < 25) : r (39 + d) = gi h (o + 9) d := by
  have e := H (39 + d) (by unfold okP; omega)
  have e1 : la (39 + d) = 9 := by
    unfold la
    rw [if_neg (by omega), if_neg (by omega), if_neg (by omega), if_neg (by omega), if_pos (by omega)]
  have e2 : lb (39 + d) = d := by
    unfold lb
    rw [if_neg (by omega), if_neg (by omega), if_neg (by omega), if_neg (by omega), if_pos (by omega)]
    omega
  rw [e1, e2] at e
  exact e
theorem RIs.size (H : RIs h o r) {d : Int} (h0 : 0 ≤ d ∧ d < 8) : r (64 + d) = gi h (o + 1) d := by
  have e := H (64 + d) (by unfold okP; omega)
  have e1 : la (64 + d) = 1 := by
    unfold la
    rw [if_neg (by omega), if_neg (by omega), if_neg (by omega), if_neg (by omega), if_neg (by omega), if_pos (by omega)]
  have e2 : lb (64 + d) = d := by
    unfold lb
    rw [if_neg (by omega), if_neg (by omega), if_neg (by omega), if_neg (by omega), if_neg (by omega), if_pos (by omega)]
    omega
  rw [e1, e2] at e
  exact e
theorem RIs.wide (H : RIs h o r) {d : Int} (h0 : 0 ≤ d ∧ d < 8) : r (72 + d) = gi h (o + 2) d := by
  have e := H (72 + d) (by unfold okP; omega)
  have e1 : la (72 + d) = 2 := by
    unfold la
    rw [if_neg (by omega), if_neg (by omega), if_neg (by omega), if_neg (by omega), if_neg (by omega), if_neg (by omega), if_pos (by omega)]
  have e2 : lb (72 + d) = d := by
    unfold lb
    rw [if_neg (by omega), if_neg (by omega), if_neg (by omega), if_neg (by omega), if_neg (by omega), if_neg (by omega), if_pos (by omega)]
    omega
  rw [e1, e2] at e
  exact e
theorem RIs.wood (H : RIs h o r) {d : Int} (h0 : 0 ≤ d ∧ d < 8) : r (80 + d) = gi h (o + 3) d := by
  have e := H (80 + d) (by unfold okP; omega)
  have e1 : la (80 + d) = 3 := by
    unfold la
    rw [if_neg (by omega), if_neg (by omega), if_neg (by omega), if_neg (by omega), if_neg (by omega), if_neg (by omega), if_neg (by omega), if_pos (by omega)]
  have e2 : lb (80 + d) = d := by
    unfold lb
    rw [if_neg (by omega), if_neg (by omega), if_neg (by omega), if_neg (by omega), if_neg (by omega), if_neg (by omega), if_neg (by omega), if_pos (by omega)]
    omega
  rw [e1, e2] at e
  exact e
theorem RIs.home (H : RIs h o r) {d : Int} (h0 : 0 ≤ d ∧ d < 8) : r (88 + d) = gi h (o + 4) d := by
  have e := H (88 + d) (by unfold okP; omega)
  have e1 : la (88 + d) = 4 := by
    unfold la
    rw [if_neg (by omega), if_neg (by omega), if_neg (by omega), if_neg (by omega), if_neg (by omega), if_neg (by omega), if_neg (by omega), if_neg (by omega), if_pos (by omega)]
  have e2 : lb (88 + d) = d := by
    unfold lb
    rw [if_neg (by omega), if_neg (by omega), if_neg (by omega), if_neg (by omega), if_neg (by omega), if_neg (by omega), if_neg (by omega), if_neg (by omega), if_pos (by omega)]
    omega
  rw [e1, e2] at e
  exact e
theorem RIs.knocks (H : RIs h o r) {d : Int} (h0 : 0 ≤ d ∧ d < 8) : r (96 + d) = gi h (o + 5) d := by
  have e := H (96 + d) (by unfold okP; omega)
  have e1 : la (96 + d) = 5 := by
    unfold la
    rw [if_neg (by omega), if_neg (by omega), if_neg (by omega), if_neg (by omega), if_neg (by omega), if_neg (by omega), if_neg (by omega), if_neg (by omega), if_neg (by omega), if_pos (by omega)]
  have e2 : lb (96 + d) = d := by
    unfold lb
    rw [if_neg (by omega), if_neg (by omega), if_neg (by omega), if_neg (by omega), if_neg (by omega), if_neg (by omega), if_neg (by omega), if_neg (by omega), if_neg (by omega), if_pos (by omega)]
    omega
  rw [e1, e2] at e
  exact e
theorem RIs.drift (H : RIs h o r) {d : Int} (h0 : 0 ≤ d ∧ d < 25) : r (104 + d) = gi h (o + 10) d := by
  have e := H (104 + d) (by unfold okP; omega)
  have e1 : la (104 + d) = 10 := by
    unfold la
    rw [if_neg (by omega), if_neg (by omega), if_neg (by omega), if_neg (by omega), if_neg (by omega), if_neg (by omega), if_neg (by omega), if_neg (by omega), if_neg (by omega), if_neg (by omega), if_pos (by omega)]
  have e2 : lb (104 + d) = d := by
    unfold lb
    rw [if_neg (by omega), if_neg (by omega), if_neg (by omega), if_neg (by omega), if_neg (by omega), if_neg (by omega), if_neg (by omega), if_neg (by omega), if_neg (by omega), if_neg (by omega), if_pos (by omega)]
    omega
  rw [e1, e2] at e
  exact e
theorem RIs.strong (H : RIs h o r) {d : Int} (h0 : 0 ≤ d ∧ d < 8) : r (129 + d) = gi h (o + 11) d := by
  have e := H (129 + d) (by unfold okP; omega)
  have e1 : la (129 + d) = 11 := by
    unfold la
    rw [if_neg (by omega), if_neg (by omega), if_neg (by omega), if_neg (by omega), if_neg (by omega), if_neg (by omega), if_neg (by omega), if_neg (by omega), if_neg (by omega), if_neg (by omega), if_neg (by omega)]
  have e2 : lb (129 + d) = d := by
    unfold lb
    rw [if_neg (by omega), if_neg (by omega), if_neg (by omega), if_neg (by omega), if_neg (by omega), if_neg (by omega), if_neg (by omega), if_neg (by omega), if_neg (by omega), if_neg (by omega), if_neg (by omega)]
    omega
  rw [e1, e2] at e
  exact e
theorem RIs.houses (H : RIs h o r) : r 0 = gi h o 0 := H 0 (by unfold okP; omega)
theorem RIs.doors (H : RIs h o r) : r 1 = gi h o 2 := H 1 (by unfold okP; omega)
theorem RIs.foes (H : RIs h o r) : r 2 = gi h o 12 := H 2 (by unfold okP; omega)
theorem RIs.laws (H : RIs h o r) : r 3 = gi h o 16 := H 3 (by unfold okP; omega)
theorem RIs.force (H : RIs h o r) : r 4 = gi h o 18 := H 4 (by unfold okP; omega)
theorem RIs.day (H : RIs h o r) : r 5 = gi h o 14 := H 5 (by unfold okP; omega)
theorem RIs.mood (H : RIs h o r) : r 6 = gi h o 15 := H 6 (by unfold okP; omega)
end ACC
theorem RU.to {hX hX' hM hM' : AH} (H : RU hX hM) (x1 : gi hX' 41 1 = gi hX 41 1) (x2 : ∀ k, gi hX' 42 k = gi hX 42 k) (m1 : gi hM' 0 8 = gi hM 0 8) (m2 : ∀ k, gi hM' 5 k = gi hM 5 k) (m3 : ∀ k, gi hM' 6 k = gi hM 6 k) (m4 : gi hM' 2 6 = gi hM 2 6) (hi : ∀ u, InvR (backR (gi hM 2) u) → InvR (backR (gi hM' 2) u)) : RU hX' hM' := by
  obtain ⟨h1, h2, h3, h4⟩ := H
  have e5 : gi hM' 5 = gi hM 5 := funext m2
  refine ⟨by rw [x1, m1, h1], by rw [m1]; exact h2, by rw [m1]; exact h3, fun j hj0 hj1 => ?_⟩
  rw [m1] at hj1
  obtain ⟨q1, q2, q3, q4, q5, q6⟩ := h4 j hj0 hj1
  simp only [x2, e5, m3, m4]
  exact ⟨q1, q2, q3, q4, q5, hi _ q6⟩
theorem RU.none {hX hM : AH} (x1 : gi hX 41 1 = 0) (m1 : gi hM 0 8 = 0) : RU hX hM := ⟨by omega, by omega, by omega, fun j h0 h1 => by omega⟩
theorem RA.to {h h' : AH} {o : Nat} {r : Int → Int} (H : RA h o r) (e : ∀ c, c ≤ 12 → ∀ k, gi h' (o + c) k = gi h (o + c) k) (e1 : DynX h h') (e2 : ∀ i, rf h' (o + 12) i = rf h (o + 12) i) : RA h' o r := ⟨H.1.to e, H.2.1.to e1 (fun i _ _ => e2 i) rfl (fun _ _ => rfl), H.2.2⟩
theorem RI.to {hX hX' hM hM' : AH} (H : RI hX hM) (x1 : ∀ k, gi hX' 15 k = gi hX 15 k) (x2 : ∀ q, 51 ≤ q → q ≤ 76 → ∀ k, gi hX' q k = gi hX q k) (x3 : DynX hX hX') (x4 : ∀ q, 51 ≤ q → q ≤ 76 → ∀ k, rf hX' q k = rf hX q k) (m1 : ∀ k, gi hM' 4 k = gi hM 4 k) (m2 : ∀ k, gi hM' 3 k = gi hM 3 k) : RI hX' hM' := by
  intro k hk
  obtain ⟨h1, h2⟩ := H k hk
  have e3 : gi hM' 3 = gi hM 3 := funext m2
  simp only [x1, m1, e3]
  refine ⟨h1, h2.imp_right fun h3 => ⟨h3.1, h3.2.to (fun c hc j => x2 _ (by omega) (by omega) j) x3 (fun i => x4 _ (by omega) (by omega) i)⟩⟩
theorem RS.to {hX hX' hM hM' : AH} (H : RS hX hM) (x1 : gi hX' 0 4 = gi hX 0 4) (x2 : ∀ q, 16 ≤ q → q ≤ 28 → ∀ k, gi hX' q k = gi hX q k) (m1 : gi hM' 0 57 = gi hM 0 57) (m2 : ∀ k, gi hM' 30 k = gi hM 30 k) (m3 : ∀ k, gi hM' 31 k = gi hM 31 k) : RS hX' hM' := by
  unfold RS at H ⊢
  simp only [x1, m1, m2, m3, x2 16 (by omega) (by omega), x2 23 (by omega) (by omega), x2 24 (by omega) (by omega), x2 25 (by omega) (by omega)]
  exact H
theorem RC.to {hM hM' : AH} (H : RC hM) (m1 : gi hM' 0 20 = gi hM 0 20) (m2 : ∀ q, (q = 15 ∨ q = 16 ∨ q = 17 ∨ q = 28) → ∀ k, gl hM' q k = gl hM q k) : RC hM' := by
  unfold RC at H ⊢
  simp only [m1, m2 15 (by omega), m2 16 (by omega), m2 17 (by omega), m2 28 (by omega)]
  exact H
/-- all but the status -/
def RNs (n : Nat) (hX hM : AH) : Prop :=
  (gi hX 29 1 = gi hM 0 13 ∧ 0 ≤ gi hM 0 13 ∧ gi hM 0 13 ≤ 400 ∧ ∀ i, 0 ≤ i → i < 400 → gi hX 30 i = gi hM 9 i ∧ 0 ≤ gi hM 9 i ∧ gi hM 9 i ≤ 255) ∧
  gi hX 31 8 = gi hM 0 18 ∧ gi hX 0 10 = gi hM 0 11 ∧ gi hX 0 11 = gi hM 0 52 ∧
  (gi hX 50 0 = gi hM 1 1 ∧ gi hX 50 1 = gi hM 1 2 ∧ gi hX 50 2 = gi hM 1 3 ∧ gi hX 50 3 = gi hM 1 5 ∧ gi hX 50 4 = gi hM 1 6) ∧
  (∀ k, 0 ≤ k → k < 7 → 0 ≤ gi hM 1 k ∧ gi hM 1 k ≤ n) ∧ n ≤ 512
def RRs (n : Nat) (hX hM : AH) : Prop := RA hX 1 (gi hM 2) ∧ RU hX hM ∧ RI hX hM ∧ RS hX hM ∧ RNs n hX hM ∧ RC hM ∧ 77 ≤ hn hX
theorem RR.s {n : Nat} {hX hM : AH} (H : RR n hX hM) : RRs n hX hM := ⟨H.1, H.2.1, H.2.2.1, H.2.2.2.1, ⟨H.2.2.2.2.1.1, H.2.2.2.2.1.2.1, H.2.2.2.2.1.2.2.1, H.2.2.2.2.1.2.2.2.1, H.2.2.2.2.1.2.2.2.2.2.1, H.2.2.2.2.1.2.2.2.2.2.2.1, H.2.2.2.2.1.2.2.2.2.2.2.2⟩, H.2.2.2.2.2.1, H.2.2.2.2.2.2⟩
theorem RRs.r {n : Nat} {hX hM : AH} (H : RRs n hX hM) (e : gi hX 0 14 = gi hM 0 1) : RR n hX hM := ⟨H.1, H.2.1, H.2.2.1, H.2.2.2.1, ⟨H.2.2.2.2.1.1, H.2.2.2.2.1.2.1, H.2.2.2.2.1.2.2.1, H.2.2.2.2.1.2.2.2.1, e, H.2.2.2.2.1.2.2.2.2.1, H.2.2.2.2.1.2.2.2.2.2.1, H.2.2.2.2.1.2.2.2.2.2.2⟩, H.2.2.2.2.2.1, H.2.2.2.2.2.2⟩
theorem RNs.to {n : Nat} {hX hX' hM hM' : AH} (H : RNs n hX hM) (x1 : gi hX' 29 1 = gi hX 29 1) (x2 : ∀ k, gi hX' 30 k = gi hX 30 k) (x3 : gi hX' 31 8 = gi hX 31 8) (x4 : gi hX' 0 10 = gi hX 0 10) (x5 : gi hX' 0 11 = gi hX 0 11) (x6 : ∀ k, gi hX' 50 k = gi hX 50 k)
    (m1 : gi hM' 0 13 = gi hM 0 13) (m2 : ∀ k, gi hM' 9 k = gi hM 9 k) (m3 : gi hM' 0 18 = gi hM 0 18) (m4 : gi hM' 0 11 = gi hM 0 11) (m5 : gi hM' 0 52 = gi hM 0 52) (m6 : ∀ k, gi hM' 1 k = gi hM 1 k) : RNs n hX' hM' := by
  unfold RNs at H ⊢
  simp only [x1, x2, x3, x4, x5, x6, m1, m2, m3, m4, m5, m6]
  exact H
theorem RNs.up {n : Nat} {hX hM : AH} (H : RNs n hX hM) (hn : n < 512) : RNs (n + 1) hX hM := by
  obtain ⟨h1, h2, h3, h4, h5, h6, h7⟩ := H
  exact ⟨h1, h2, h3, h4, h5, fun k a b => ⟨(h6 k a b).1, by have := (h6 k a b).2; omega⟩, by omega⟩
/-- the answer of a call that was not refused -/
theorem RRs.ok {n : Nat} {hX hM : AH} (H : RRs n hX hM) (hn : n < 512) {v : Int} (hv : 0 ≤ v) : RR (n + 1) (si hX 0 14 0) (mTell hM v) := by
  obtain ⟨h1, h2, h3, h4, h5, h6, h7⟩ := H
  unfold mTell
  rw [if_neg (by omega)]
  refine RRs.r ⟨?_, h2.to (by simp [gi_si]) (by intro k; simp [gi_si]) (by simp [gi_si]) (by intro k; simp [gi_si]) (by intro k; simp [gi_si]) (by simp [gi_si]) (fun u z => by rw [gi_o (by decide)]; exact z), h3.to (by intro k; simp [gi_si]) (fun q a b k => by rw [gi_o (by omega)]) (DynX.rfl'.si (by decide)) (fun _ _ _ _ => rfl) (by intro k; simp [gi_si]) (by intro k; simp [gi_si]), h4.to (by simp [gi_si]) (fun q a b k => by rw [gi_o (by omega)]) (by simp [gi_si]) (by intro k; simp [gi_si]) (by intro k; simp [gi_si]), (h5.to (by simp [gi_si]) (by intro k; simp [gi_si]) (by simp [gi_si]) (by simp [gi_si]) (by simp [gi_si]) (by intro k; simp [gi_si]) (by simp [gi_si]) (by intro k; simp [gi_si]) (by simp [gi_si]) (by simp [gi_si]) (by simp [gi_si]) (by intro k; simp [gi_si])).up hn, h6.to (by simp [gi_si]) (fun _ _ _ => rfl), h7⟩ (by simp [gi_si])
  rw [gi_o (by decide)]
  exact h1.to (fun c hc k => by rw [gi_o (by omega)]) (DynX.rfl'.si (by decide)) (fun _ => rfl)
