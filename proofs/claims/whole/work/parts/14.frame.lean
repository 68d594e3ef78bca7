/-! what stays of the relation when one side or both write -/
def up1 (r : Int → Int) (k v : Int) : Int → Int := fun j => if j = k then v else r j
theorem up1_eq {r : Int → Int} {k v : Int} : up1 r k v k = v := if_pos rfl
theorem up1_ne {r : Int → Int} {k v j : Int} (h : j ≠ k) : up1 r k v j = r j := if_neg h
theorem gi_o {h : AH} {a q : Nat} {i v : Int} (e : q ≠ a) : gi (si h a i v) q = gi h q := by funext k; rw [gi_si, if_neg (fun z => e z.1)]
theorem gi_self {h : AH} {a : Nat} {i v : Int} : gi (si h a i v) a = up1 (gi h a) i v := by
  funext k
  rw [gi_si]
  unfold up1
  by_cases e : k = i
  · rw [if_pos ⟨rfl, e⟩, if_pos e]
  · rw [if_neg (fun z => e z.2), if_neg e]
/-- objects made later stay -/
def DynX (h h' : AH) : Prop := hn h ≤ hn h' ∧ ∀ q, 76 ≤ q → q < hn h → kd h' q = kd h q ∧ (∀ k, gi h' q k = gi h q k) ∧ ∀ k, rf h' q k = rf h q k
theorem DynX.rfl' {h : AH} : DynX h h := ⟨Nat.le_refl _, fun _ _ _ => ⟨rfl, fun _ => rfl, fun _ => rfl⟩⟩
theorem DynX.trans {h1 h2 h3 : AH} (a : DynX h1 h2) (b : DynX h2 h3) : DynX h1 h3 := ⟨Nat.le_trans a.1 b.1, fun q h q2 => by
  obtain ⟨a1, a2, a3⟩ := a.2 q h q2
  obtain ⟨b1, b2, b3⟩ := b.2 q h (Nat.lt_of_lt_of_le q2 a.1)
  exact ⟨b1.trans a1, fun k => (b2 k).trans (a2 k), fun k => (b3 k).trans (a3 k)⟩⟩
theorem DynX.si {h0 h : AH} (e : DynX h0 h) {a : Nat} {i v : Int} (ha : a < 76) : DynX h0 (si h a i v) := e.trans ⟨Nat.le_refl _, fun q h1 _ => ⟨rfl, fun k => by rw [gi_o (by omega)], fun _ => rfl⟩⟩
theorem DynX.cpy {h0 h : AH} (e : DynX h0 h) {a b : Nat} {i j n : Int} (hb : b < 76) : DynX h0 (cpy h a i b j n) := e.trans ⟨Nat.le_refl _, fun q h1 _ => ⟨rfl, fun k => by rw [gi_cpy, if_neg (by omega)], fun _ => rfl⟩⟩
theorem DynX.sr {h0 h : AH} (e : DynX h0 h) {a : Nat} {i : Int} {v : Option Nat} (ha : a < 76) : DynX h0 (sr h a i v) := e.trans ⟨Nat.le_refl _, fun q h1 _ => ⟨rfl, fun _ => rfl, fun k => by rw [rf_sr, if_neg (by omega)]⟩⟩
theorem TxtR.dyn {h h' : AH} {t : Nat} {c : Int → Int} (H : TxtR h t c) (e : DynX h h') : TxtR h' t c := by
  obtain ⟨h1, h2, h3, a, s, na, ns, a1, a2, a3, a4, a5, a6, a7, a8, a9, b1, b2, b3, b4, b5, b6, b7⟩ := H
  obtain ⟨t1, t2, t3⟩ := e.2 t h1 h2
  obtain ⟨u1, u2, u3⟩ := e.2 a a1 a3
  obtain ⟨v1, v2, v3⟩ := e.2 s a2 a4
  have es : gi h' s = gi h s := funext v2
  refine ⟨h1, Nat.lt_of_lt_of_le h2 e.1, t1.trans h3, a, s, na, ns, a1, a2, Nat.lt_of_lt_of_le a3 e.1, Nat.lt_of_lt_of_le a4 e.1, (t3 1).trans a5, (t3 3).trans a6, u1.trans a7, v1.trans a8, a9, b1, (t2 0).trans b2, b3, b4, (t2 2).trans b5, b6, ?_⟩
  simp only [u2, es]
  exact b7
theorem TxtR.c {h : AH} {t : Nat} {c c' : Int → Int} (H : TxtR h t c) (e : c' = c) : TxtR h t c' := e ▸ H
theorem RTx.to {h h' : AH} {o : Nat} {r r' : Int → Int} (H : RTx h o r) (e : DynX h h') (e1 : ∀ i, 0 ≤ i → (i < r 3 ∨ i < 6) → rf h' (o + 12) i = rf h (o + 12) i) (e2 : r' 3 = r 3) (e3 : ∀ j, 140 ≤ j → r' j = r j) : RTx h' o r' := by
  refine ⟨fun i h0 h1 => ?_, fun i t h0 h1 h2 => ?_⟩
  · rw [e2] at h1
    obtain ⟨t, q1, q2⟩ := H.1 i h0 h1
    refine ⟨t, (e1 i h0 (Or.inl h1)).trans q1, ?_⟩
    rw [lawC_eq h0 e3]
    exact q2.dyn e
  · rw [e1 i h0 (Or.inr h1)] at h2
    obtain ⟨q1, q2, q3⟩ := H.2 i t h0 h1 h2
    exact ⟨q1, Nat.lt_of_lt_of_le q2 e.1, (e.2 t q1 q2).1.trans q3⟩
theorem RIs.to {h h' : AH} {o : Nat} {r : Int → Int} (H : RIs h o r) (e : ∀ c, c ≤ 12 → ∀ k, gi h' (o + c) k = gi h (o + c) k) : RIs h' o r := by
  intro k hk
  have hla : la k ≤ 12 := by
    unfold la
    repeat' split
    all_goals omega
  rw [e _ hla]
  exact H k hk
theorem la_le (k : Int) : la k ≤ 12 := by
  unfold la
  repeat' split
  all_goals omega
/-- both sides write the same at places that belong together -/
theorem RIs.set {h : AH} {o a : Nat} {r : Int → Int} (H : RIs h o r) {k i v : Int} (hk : okP k) (ha : a = o + la k) (hi : i = lb k) : RIs (si h a i v) o (up1 r k v) := by
  intro j hj
  subst ha
  subst hi
  by_cases e : j = k
  · subst e
    rw [up1_eq, gi_eq]
  · rw [up1_ne e, H j hj, gi_si, if_neg]
    intro z
    exact e (lab_inj hj hk (by omega) z.2)
/-- the reference alone writes, where the isle has no place -/
theorem RIs.setM {h : AH} {o : Nat} {r : Int → Int} (H : RIs h o r) {k v : Int} (hk : ¬ okP k) : RIs h o (up1 r k v) := by
  intro j hj
  have e : j ≠ k := fun e => hk (by rw [← e]; exact hj)
  rw [up1_ne e]
  exact H j hj
theorem RIs.setX {h : AH} {o a : Nat} {r : Int → Int} (H : RIs h o r) {i v : Int} (ha : ∀ c, c ≤ 12 → a ≠ o + c) : RIs (si h a i v) o r := H.to fun c hc k => by rw [gi_o (fun z => ha c hc z.symm)]
theorem okP_s {k : Int} (h : (0 ≤ k ∧ k < 31) ∨ (39 ≤ k ∧ k < 137)) : okP k := h
section ACC
variable {h : AH} {o : Nat} {r : Int → Int}
theorem RIs.hangs (H : RIs h o r) {d : Int} (h0 : 0 ≤ d ∧ d < 8) : r (7 + d) = gi h (o + 6) d := by
  have e := H (7 + d) (by unfold okP; omega)
  have e1 : la (7 + d) = 6 := by
    unfold la
    rw [if_neg (by omega), if_pos (by omega)]
  have e2 : lb (7 + d) = d := by
    unfold lb
    rw [if_neg (by omega), if_pos (by omega)]
    omega
  rw [e1, e2] at e
  exact e
theorem RIs.cell (H : RIs h o r) {d : Int} (h0 : 0 ≤ d ∧ d < 8) : r (15 + d) = gi h (o + 7) d := by
  have e := H (15 + d) (by unfold okP; omega)
  have e1 : la (15 + d) = 7 := by
    unfold la
    rw [if_neg (by omega), if_neg (by omega), if_pos (by omega)]
  have e2 : lb (15 + d) = d := by
    unfold lb
    rw [if_neg (by omega), if_neg (by omega), if_pos (by omega)]
    omega
  rw [e1, e2] at e
  exact e
theorem RIs.caught (H : RIs h o r) {d : Int} (h0 : 0 ≤ d ∧ d < 8) : r (23 + d) = gi h (o + 8) d := by
  have e := H (23 + d) (by unfold okP; omega)
  have e1 : la (23 + d) = 8 := by
    unfold la
    rw [if_neg (by omega), if_neg (by omega), if_neg (by omega), if_pos (by omega)]
  have e2 : lb (23 + d) = d := by
    unfold lb
    rw [if_neg (by omega), if_neg (by omega), if_neg (by omega), if_pos (by omega)]
    omega
  rw [e1, e2] at e
  exact e
theorem RIs.fish (H : RIs h o r) {d : Int} (h0 : 0 ≤ d ∧ d < 25) : r (39 + d) = gi h (o + 9) d := by
  have e := H (39 + d) (by unfold okP; omega)
  have e1 : la (39 + d) = 9 := by
    unfold la
    rw [if_neg (by omega), if_neg (by omega), if_neg (by omega), if_neg (by omega), if_pos (by omega)]
  have e2 : lb (39 + d) = d := by
    unfold lb
    rw [if_neg (by omega), if_neg (by omega), if_neg (by omega), if_neg (by omega), if_pos (by omega)]
    omega
  rw [e1, e2] at e
  exact e
theorem RIs.size (H : RIs h o r) {d : Int} (h0 : 0 ≤ d ∧ d < 8) : r (64 + d) = gi h (o + 1) d := by
  have e := H (64 + d) (by unfold okP; omega)
  have e1 : la (64 + d) = 1 := by
    unfold la
    rw [if_neg (by omega), if_neg (by omega), if_neg (by omega), if_neg (by omega), if_neg (by omega), if_pos (by omega)]
  have e2 : lb (64 + d) = d := by
    unfold lb
    rw [if_neg (by omega), if_neg (by omega), if_neg (by omega), if_neg (by omega), if_neg (by omega), if_pos (by omega)]
    omega
  rw [e1, e2] at e
  exact e
theorem RIs.wide (H : RIs h o r) {d : Int} (h0 : 0 ≤ d ∧ d < 8) : r (72 + d) = gi h (o + 2) d := by
  have e := H (72 + d) (by unfold okP; omega)
  have e1 : la (72 + d) = 2 := by
    unfold la
    rw [if_neg (by omega), if_neg (by omega), if_neg (by omega), if_neg (by omega), if_neg (by omega), if_neg (by omega), if_pos (by omega)]
  have e2 : lb (72 + d) = d := by
    unfold lb
    rw [if_neg (by omega), if_neg (by omega), if_neg (by omega), if_neg (by omega), if_neg (by omega), if_neg (by omega), if_pos (by omega)]
    omega
  rw [e1, e2] at e
  exact e
theorem RIs.wood (H : RIs h o r) {d : Int} (h0 : 0 ≤ d ∧ d < 8) : r (80 + d) = gi h (o + 3) d := by
  have e := H (80 + d) (by unfold okP; omega)
  have e1 : la (80 + d) = 3 := by
    unfold la
    rw [if_neg (by omega), if_neg (by omega), if_neg (by omega), if_neg (by omega), if_neg (by omega), if_neg (by omega), if_neg (by omega), if_pos (by omega)]
  have e2 : lb (80 + d) = d := by
    unfold lb
    rw [if_neg (by omega), if_neg (by omega), if_neg (by omega), if_neg (by omega), if_neg (by omega), if_neg (by omega), if_neg (by omega), if_pos (by omega)]
    omega
  rw [e1, e2] at e
  exact e
theorem RIs.home (H : RIs h o r) {d : Int} (h0 : 0 ≤ d ∧ d < 8) : r (88 + d) = gi h (o + 4) d := by
  have e := H (88 + d) (by unfold okP; omega)
  have e1 : la (88 + d) = 4 := by
    unfold la
    rw [if_neg (by omega), if_neg (by omega), if_neg (by omega), if_neg (by omega), if_neg (by omega), if_neg (by omega), if_neg (by omega), if_neg (by omega), if_pos (by omega)]
  have e2 : lb (88 + d) = d := by
    unfold lb
    rw [if_neg (by omega), if_neg (by omega), if_neg (by omega), if_neg (by omega), if_neg (by omega), if_neg (by omega), if_neg (by omega), if_neg (by omega), if_pos (by omega)]
    omega
  rw [e1, e2] at e
  exact e
theorem RIs.knocks (H : RIs h o r) {d : Int} (h0 : 0 ≤ d ∧ d < 8) : r (96 + d) = gi h (o + 5) d := by
  have e := H (96 + d) (by unfold okP; omega)
  have e1 : la (96 + d) = 5 := by
    unfold la
    rw [if_neg (by omega), if_neg (by omega), if_neg (by omega), if_neg (by omega), if_neg (by omega), if_neg (by omega), if_neg (by omega), if_neg (by omega), if_neg (by omega), if_pos (by omega)]
  have e2 : lb (96 + d) = d := by
    unfold lb
    rw [if_neg (by omega), if_neg (by omega), if_neg (by omega), if_neg (by omega), if_neg (by omega), if_neg (by omega), if_neg (by omega), if_neg (by omega), if_neg (by omega), if_pos (by omega)]
    omega
  rw [e1, e2] at e
  exact e
theorem RIs.drift (H : RIs h o r) {d : Int} (h0 : 0 ≤ d ∧ d < 25) : r (104 + d) = gi h (o + 10) d := by
  have e := H (104 + d) (by unfold okP; omega)
  have e1 : la (104 + d) = 10 := by
    unfold la
    rw [if_neg (by omega), if_neg (by omega), if_neg (by omega), if_neg (by omega), if_neg (by omega), if_neg (by omega), if_neg (by omega), if_neg (by omega), if_neg (by omega), if_neg (by omega), if_pos (by omega)]
  have e2 : lb (104 + d) = d := by
    unfold lb
    rw [if_neg (by omega), if_neg (by omega), if_neg (by omega), if_neg (by omega), if_neg (by omega), if_neg (by omega), if_neg (by omega), if_neg (by omega), if_neg (by omega), if_neg (by omega), if_pos (by omega)]
    omega
  rw [e1, e2] at e
  exact e
theorem RIs.strong (H : RIs h o r) {d : Int} (h0 : 0 ≤ d ∧ d < 8) : r (129 + d) = gi h (o + 11) d := by
  have e := H (129 + d) (by unfold okP; omega)
  have e1 : la (129 + d) = 11 := by
    unfold la
    rw [if_neg (by omega), if_neg (by omega), if_neg (by omega), if_neg (by omega), if_neg (by omega), if_neg (by omega), if_neg (by omega), if_neg (by omega), if_neg (by omega), if_neg (by omega), if_neg (by omega)]
  have e2 : lb (129 + d) = d := by
    unfold lb
    rw [if_neg (by omega), if_neg (by omega), if_neg (by omega), if_neg (by omega), if_neg (by omega), if_neg (by omega), if_neg (by omega), if_neg (by omega), if_neg (by omega), if_neg (by omega), if_neg (by omega)]
    omega
  rw [e1, e2] at e
  exact e
theorem RIs.houses (H : RIs h o r) : r 0 = gi h o 0 := H 0 (by unfold okP; omega)
theorem RIs.doors (H : RIs h o r) : r 1 = gi h o 2 := H 1 (by unfold okP; omega)
theorem RIs.foes (H : RIs h o r) : r 2 = gi h o 12 := H 2 (by unfold okP; omega)
theorem RIs.laws (H : RIs h o r) : r 3 = gi h o 16 := H 3 (by unfold okP; omega)
theorem RIs.force (H : RIs h o r) : r 4 = gi h o 18 := H 4 (by unfold okP; omega)
theorem RIs.day (H : RIs h o r) : r 5 = gi h o 14 := H 5 (by unfold okP; omega)
theorem RIs.mood (H : RIs h o r) : r 6 = gi h o 15 := H 6 (by unfold okP; omega)
end ACC
theorem RU.to {hX hX' hM hM' : AH} (H : RU hX hM) (x1 : gi hX' 41 1 = gi hX 41 1) (x2 : ∀ k, gi hX' 42 k = gi hX 42 k) (m1 : gi hM' 0 8 = gi hM 0 8) (m2 : ∀ k, gi hM' 5 k = gi hM 5 k) (m3 : ∀ k, gi hM' 6 k = gi hM 6 k) (m4 : gi hM' 2 6 = gi hM 2 6) (hi : ∀ u, InvR (backR (gi hM 2) u) → InvR (backR (gi hM' 2) u)) : RU hX' hM' := by
  obtain ⟨h1, h2, h3, h4⟩ := H
  have e5 : gi hM' 5 = gi hM 5 := funext m2
  refine ⟨by rw [x1, m1, h1], by rw [m1]; exact h2, by rw [m1]; exact h3, fun j hj0 hj1 => ?_⟩
  rw [m1] at hj1
  obtain ⟨q1, q2, q3, q4, q5, q6⟩ := h4 j hj0 hj1
  simp only [x2, e5, m3, m4]
  exact ⟨q1, q2, q3, q4, q5, hi _ q6⟩
theorem RU.none {hX hM : AH} (x1 : gi hX 41 1 = 0) (m1 : gi hM 0 8 = 0) : RU hX hM := ⟨by omega, by omega, by omega, fun j h0 h1 => by omega⟩
theorem RA.to {h h' : AH} {o : Nat} {r : Int → Int} (H : RA h o r) (e : ∀ c, c ≤ 12 → ∀ k, gi h' (o + c) k = gi h (o + c) k) (e1 : DynX h h') (e2 : ∀ i, rf h' (o + 12) i = rf h (o + 12) i) : RA h' o r := ⟨H.1.to e, H.2.1.to e1 (fun i _ _ => e2 i) rfl (fun _ _ => rfl), H.2.2⟩
theorem RI.to {hX hX' hM hM' : AH} (H : RI hX hM) (x1 : ∀ k, gi hX' 15 k = gi hX 15 k) (x2 : ∀ q, 50 ≤ q → q ≤ 75 → ∀ k, gi hX' q k = gi hX q k) (x3 : DynX hX hX') (x4 : ∀ q, 50 ≤ q → q ≤ 75 → ∀ k, rf hX' q k = rf hX q k) (m1 : ∀ k, gi hM' 4 k = gi hM 4 k) (m2 : ∀ k, gi hM' 3 k = gi hM 3 k) : RI hX' hM' := by
  intro k hk
  obtain ⟨h1, h2⟩ := H k hk
  have e3 : gi hM' 3 = gi hM 3 := funext m2
  simp only [x1, m1, e3]
  refine ⟨h1, h2.imp_right fun h3 => ⟨h3.1, h3.2.to (fun c hc j => x2 _ (by omega) (by omega) j) x3 (fun i => x4 _ (by omega) (by omega) i)⟩⟩
theorem RS.to {hX hX' hM hM' : AH} (H : RS hX hM) (x1 : gi hX' 0 4 = gi hX 0 4) (x2 : ∀ q, 16 ≤ q → q ≤ 28 → ∀ k, gi hX' q k = gi hX q k) (x3 : ∀ k : Int, gi hX' 46 (k * 128) = gi hX 46 (k * 128)) (m1 : gi hM' 0 57 = gi hM 0 57) (m2 : ∀ k, gi hM' 30 k = gi hM 30 k) (m3 : ∀ k, gi hM' 31 k = gi hM 31 k) : RS hX' hM' := by
  unfold RS at H ⊢
  simp only [x1, x3, m1, m2, m3, x2 16 (by omega) (by omega), x2 23 (by omega) (by omega), x2 24 (by omega) (by omega), x2 25 (by omega) (by omega)]
  exact H
theorem RC.to {hM hM' : AH} (H : RC hM) (m1 : gi hM' 0 20 = gi hM 0 20) (m2 : ∀ q, (q = 15 ∨ q = 16 ∨ q = 17 ∨ q = 28) → ∀ k, gl hM' q k = gl hM q k) : RC hM' := by
  unfold RC at H ⊢
  simp only [m1, m2 15 (by omega), m2 16 (by omega), m2 17 (by omega), m2 28 (by omega)]
  exact H
/-- all but the status -/
def RNs (n : Nat) (hX hM : AH) : Prop :=
  (gi hX 29 1 = gi hM 0 13 ∧ 0 ≤ gi hM 0 13 ∧ gi hM 0 13 ≤ 400 ∧ ∀ i, 0 ≤ i → i < 400 → gi hX 30 i = gi hM 9 i ∧ 0 ≤ gi hM 9 i ∧ gi hM 9 i ≤ 255) ∧
  gi hX 31 8 = gi hM 0 18 ∧ gi hX 0 10 = gi hM 0 11 ∧ gi hX 0 11 = gi hM 0 52 ∧
  (gi hX 14 0 = gi hM 1 1 ∧ gi hX 14 1 = gi hM 1 2 ∧ gi hX 14 2 = gi hM 1 3 ∧ gi hX 14 3 = gi hM 1 5 ∧ gi hX 14 4 = gi hM 1 6) ∧
  (∀ k, 0 ≤ k → k < 7 → 0 ≤ gi hM 1 k ∧ gi hM 1 k ≤ n) ∧ n ≤ 512
def RRs (n : Nat) (hX hM : AH) : Prop := RA hX 1 (gi hM 2) ∧ RU hX hM ∧ RI hX hM ∧ RS hX hM ∧ RNs n hX hM ∧ RC hM ∧ 76 ≤ hn hX
theorem RR.s {n : Nat} {hX hM : AH} (H : RR n hX hM) : RRs n hX hM := ⟨H.1, H.2.1, H.2.2.1, H.2.2.2.1, ⟨H.2.2.2.2.1.1, H.2.2.2.2.1.2.1, H.2.2.2.2.1.2.2.1, H.2.2.2.2.1.2.2.2.1, H.2.2.2.2.1.2.2.2.2.2.1, H.2.2.2.2.1.2.2.2.2.2.2.1, H.2.2.2.2.1.2.2.2.2.2.2.2⟩, H.2.2.2.2.2.1, H.2.2.2.2.2.2⟩
theorem RRs.r {n : Nat} {hX hM : AH} (H : RRs n hX hM) (e : gi hX 0 14 = gi hM 0 1) : RR n hX hM := ⟨H.1, H.2.1, H.2.2.1, H.2.2.2.1, ⟨H.2.2.2.2.1.1, H.2.2.2.2.1.2.1, H.2.2.2.2.1.2.2.1, H.2.2.2.2.1.2.2.2.1, e, H.2.2.2.2.1.2.2.2.2.1, H.2.2.2.2.1.2.2.2.2.2.1, H.2.2.2.2.1.2.2.2.2.2.2⟩, H.2.2.2.2.2.1, H.2.2.2.2.2.2⟩
theorem RNs.to {n : Nat} {hX hX' hM hM' : AH} (H : RNs n hX hM) (x1 : gi hX' 29 1 = gi hX 29 1) (x2 : ∀ k, gi hX' 30 k = gi hX 30 k) (x3 : gi hX' 31 8 = gi hX 31 8) (x4 : gi hX' 0 10 = gi hX 0 10) (x5 : gi hX' 0 11 = gi hX 0 11) (x6 : ∀ k, gi hX' 14 k = gi hX 14 k)
    (m1 : gi hM' 0 13 = gi hM 0 13) (m2 : ∀ k, gi hM' 9 k = gi hM 9 k) (m3 : gi hM' 0 18 = gi hM 0 18) (m4 : gi hM' 0 11 = gi hM 0 11) (m5 : gi hM' 0 52 = gi hM 0 52) (m6 : ∀ k, gi hM' 1 k = gi hM 1 k) : RNs n hX' hM' := by
  unfold RNs at H ⊢
  simp only [x1, x2, x3, x4, x5, x6, m1, m2, m3, m4, m5, m6]
  exact H
theorem RNs.up {n : Nat} {hX hM : AH} (H : RNs n hX hM) (hn : n < 512) : RNs (n + 1) hX hM := by
  obtain ⟨h1, h2, h3, h4, h5, h6, h7⟩ := H
  exact ⟨h1, h2, h3, h4, h5, fun k a b => ⟨(h6 k a b).1, by have := (h6 k a b).2; omega⟩, by omega⟩
/-- places that the relation looks at -/
def coreX (q : Nat) (k : Int) : Prop := (q = 0 ∧ (k = 4 ∨ k = 10 ∨ k = 11)) ∨ (1 ≤ q ∧ q ≤ 28) ∨ (q = 29 ∧ k = 1) ∨ q = 30 ∨ (q = 31 ∧ k = 8) ∨ (q = 41 ∧ k = 1) ∨ q = 42 ∨ (50 ≤ q ∧ q ≤ 75) ∨ (q = 46 ∧ k % 128 = 0)
def coreM (q : Nat) (k : Int) : Prop := (q = 0 ∧ (k = 8 ∨ k = 11 ∨ k = 13 ∨ k = 18 ∨ k = 20 ∨ k = 52 ∨ k = 57)) ∨ (1 ≤ q ∧ q ≤ 6) ∨ q = 9 ∨ q = 30 ∨ q = 31
def SameX (h h' : AH) : Prop := DynX h h' ∧ (∀ q k, coreX q k → gi h' q k = gi h q k) ∧ ∀ q k, q < 76 → rf h' q k = rf h q k
def SameM (h h' : AH) : Prop := (∀ q k, coreM q k → gi h' q k = gi h q k) ∧ ∀ q k, (q = 15 ∨ q = 16 ∨ q = 17 ∨ q = 28) → gl h' q k = gl h q k
theorem SameX.rfl' {h : AH} : SameX h h := ⟨DynX.rfl', fun _ _ _ => rfl, fun _ _ _ => rfl⟩
theorem SameM.rfl' {h : AH} : SameM h h := ⟨fun _ _ _ => rfl, fun _ _ _ => rfl⟩
theorem SameX.trans {a b c : AH} (x : SameX a b) (y : SameX b c) : SameX a c := ⟨x.1.trans y.1, fun q k z => (y.2.1 q k z).trans (x.2.1 q k z), fun q k z => (y.2.2 q k z).trans (x.2.2 q k z)⟩
theorem SameM.trans {a b c : AH} (x : SameM a b) (y : SameM b c) : SameM a c := ⟨fun q k z => (y.1 q k z).trans (x.1 q k z), fun q k z => (y.2 q k z).trans (x.2 q k z)⟩
theorem SameX.si {h0 h : AH} (e : SameX h0 h) {a : Nat} {k v : Int} (ha : a < 76 ∧ ¬ coreX a k) : SameX h0 (si h a k v) := e.trans ⟨DynX.rfl'.si ha.1, fun q j z => by
  have w : ¬ (q = a ∧ j = k) := by
    rintro ⟨e1, e2⟩
    exact ha.2 (by rw [← e1, ← e2]; exact z)
  rw [gi_si, if_neg w], fun _ _ _ => rfl⟩
theorem SameM.si {h0 h : AH} (e : SameM h0 h) {a : Nat} {k v : Int} (ha : ¬ coreM a k) : SameM h0 (si h a k v) := e.trans ⟨fun q j z => by
  have w : ¬ (q = a ∧ j = k) := by
    rintro ⟨e1, e2⟩
    exact ha (by rw [← e1, ← e2]; exact z)
  rw [gi_si, if_neg w], fun _ _ _ => rfl⟩
theorem SameM.sl {h0 h : AH} (e : SameM h0 h) {a : Nat} {k v : Int} (ha : a ≠ 15 ∧ a ≠ 16 ∧ a ≠ 17 ∧ a ≠ 28) : SameM h0 (sl h a k v) := e.trans ⟨fun _ _ _ => rfl, fun q j z => by rw [gl_sl, if_neg (fun w => by omega)]⟩
theorem RRs.same {n : Nat} {hX hX' hM hM' : AH} (H : RRs n hX hM) (sx : SameX hX hX') (sm : SameM hM hM') : RRs n hX' hM' := by
  obtain ⟨h1, h2, h3, h4, h5, h6, h7⟩ := H
  obtain ⟨x1, x2, x3⟩ := sx
  obtain ⟨m1, m2⟩ := sm
  have e2 : gi hM' 2 = gi hM 2 := funext fun k => m1 2 k (by unfold coreM; omega)
  refine ⟨?_, h2.to (x2 _ _ (by unfold coreX; omega)) (fun k => x2 _ _ (by unfold coreX; omega)) (m1 _ _ (by unfold coreM; omega)) (fun k => m1 _ _ (by unfold coreM; omega)) (fun k => m1 _ _ (by unfold coreM; omega)) (m1 _ _ (by unfold coreM; omega)) (fun u z => by rw [e2]; exact z),
    h3.to (fun k => x2 _ _ (by unfold coreX; omega)) (fun q a b k => x2 _ _ (by unfold coreX; omega)) x1 (fun q a b k => x3 _ _ (by omega)) (fun k => m1 _ _ (by unfold coreM; omega)) (fun k => m1 _ _ (by unfold coreM; omega)),
    h4.to (x2 _ _ (by unfold coreX; omega)) (fun q a b k => x2 _ _ (by unfold coreX; omega)) (fun k => x2 _ _ (by unfold coreX; omega)) (m1 _ _ (by unfold coreM; omega)) (fun k => m1 _ _ (by unfold coreM; omega)) (fun k => m1 _ _ (by unfold coreM; omega)),
    h5.to (x2 _ _ (by unfold coreX; omega)) (fun k => x2 _ _ (by unfold coreX; omega)) (x2 _ _ (by unfold coreX; omega)) (x2 _ _ (by unfold coreX; omega)) (x2 _ _ (by unfold coreX; omega)) (fun k => x2 _ _ (by unfold coreX; omega)) (m1 _ _ (by unfold coreM; omega)) (fun k => m1 _ _ (by unfold coreM; omega)) (m1 _ _ (by unfold coreM; omega)) (m1 _ _ (by unfold coreM; omega)) (m1 _ _ (by unfold coreM; omega)) (fun k => m1 _ _ (by unfold coreM; omega)),
    h6.to (m1 _ _ (by unfold coreM; omega)) (fun q z k => m2 q k z), Nat.le_trans h7 x1.1⟩
  rw [e2]
  exact h1.to (fun c hc k => x2 _ _ (by unfold coreX; omega)) x1 (fun i => x3 _ _ (by omega))
theorem RRs.up {n : Nat} {hX hM : AH} (H : RRs n hX hM) (hn : n < 512) : RRs (n + 1) hX hM := ⟨H.1, H.2.1, H.2.2.1, H.2.2.2.1, H.2.2.2.2.1.up hn, H.2.2.2.2.2⟩
/-- the answer of a call that was not refused -/
theorem RRs.ok {n : Nat} {hX hM : AH} (H : RRs n hX hM) (hn : n < 512) {v : Int} (hv : 0 ≤ v) : RR (n + 1) (si hX 0 14 0) (mTell hM v) := by
  unfold mTell
  rw [if_neg (by omega)]
  exact ((H.same (SameX.rfl'.si (by unfold coreX; omega)) (SameM.rfl'.si (by unfold coreM; omega))).up hn).r (by rw [gi_eq, gi_eq])
theorem RRs.okc {n : Nat} {hX hM : AH} (H : RRs n hX hM) (hn : n < 512) : RR (n + 1) (si hX 0 14 0) (si hM 0 1 0) := by
  have := H.ok hn (v := 0) (by omega)
  unfold mTell at this
  rwa [if_neg (by omega)] at this
/-- a refusal counted -/
theorem RRs.cnt {n : Nat} {hX hM : AH} (H : RRs n hX hM) (hn : n < 512) {j j' : Int} (hj : (j = 0 ∧ j' = 1) ∨ (j = 1 ∧ j' = 2) ∨ (j = 2 ∧ j' = 3) ∨ (j = 3 ∧ j' = 5) ∨ (j = 4 ∧ j' = 6)) {v v' : Int} (hv : v = gi hX 14 j + 1) (hv' : v' = gi hM 1 j' + 1) : RRs (n + 1) (si hX 14 j v) (si hM 1 j' v') := by
  obtain ⟨h1, h2, h3, h4, ⟨a1, a2, a3, a4, ⟨b1, b2, b3, b4, b5⟩, a6, a7⟩, h6, h7⟩ := H
  have e2 : gi (si hM 1 j' v') 2 = gi hM 2 := gi_o (by decide)
  have q : ∀ {a : Nat} (k : Int), a ≠ 14 → gi (si hX 14 j v) a k = gi hX a k := fun k z => by rw [gi_o z]
  have p : ∀ {a : Nat} (k : Int), a ≠ 1 → gi (si hM 1 j' v') a k = gi hM a k := fun k z => by rw [gi_o z]
  have d : DynX hX (si hX 14 j v) := DynX.rfl'.si (by decide)
  refine ⟨?_, h2.to (q _ (by decide)) (fun k => q _ (by decide)) (p _ (by decide)) (fun k => p _ (by decide)) (fun k => p _ (by decide)) (p _ (by decide)) (fun u z => by rw [e2]; exact z),
    h3.to (fun k => q _ (by decide)) (fun q' a b k => q _ (by omega)) d (fun _ _ _ _ => rfl) (fun k => p _ (by decide)) (fun k => p _ (by decide)),
    h4.to (q _ (by decide)) (fun q' a b k => q _ (by omega)) (fun k => q _ (by decide)) (p _ (by decide)) (fun k => p _ (by decide)) (fun k => p _ (by decide)),
    ⟨?_, ?_, ?_, ?_, ?_, fun k k0 k1 => ?_, by omega⟩, h6.to (p _ (by decide)) (fun _ _ _ => rfl), h7⟩
  · rw [e2]
    exact h1.to (fun c hc k => q _ (by omega)) d (fun _ => rfl)
  · rw [q _ (by decide), p _ (by decide)]
    refine ⟨a1.1, a1.2.1, a1.2.2.1, fun i i0 i1 => ?_⟩
    rw [q _ (by decide), p _ (by decide)]
    exact a1.2.2.2 i i0 i1
  · rw [q _ (by decide), p _ (by decide)]; exact a2
  · rw [q _ (by decide), p _ (by decide)]; exact a3
  · rw [q _ (by decide), p _ (by decide)]; exact a4
  · rw [gi_self, gi_self]
    unfold up1
    rcases hj with ⟨z1, z2⟩ | ⟨z1, z2⟩ | ⟨z1, z2⟩ | ⟨z1, z2⟩ | ⟨z1, z2⟩ <;> subst z1 <;> subst z2 <;> simp <;> omega
  · have := a6 k k0 k1
    have t2 := a6 j' (by omega) (by omega)
    rw [gi_self]
    unfold up1
    split <;> omega
theorem RRs.ref {n : Nat} {hX hM : AH} (H : RRs n hX hM) (hn : n < 512) {v : Int} (hv : v = -1 ∨ v = -2 ∨ v = -3 ∨ v = -5 ∨ v = -6) : RR (n + 1) (xRef hX v) (mTell hM v) := by
  have B : RRs n (si hX 0 14 v) (si hM 0 1 v) := H.same (SameX.rfl'.si (by unfold coreX; omega)) (SameM.rfl'.si (by unfold coreM; omega))
  have e : ∀ j, gi (si hX 0 14 v) 14 j = gi hX 14 j := fun j => by rw [gi_o (by decide)]
  have e' : ∀ j, gi (si hM 0 1 v) 1 j = gi hM 1 j := fun j => by rw [gi_o (by decide)]
  have s : ∀ j j' w w', gi (si (si hX 0 14 v) 14 j w) 0 14 = gi (si (si hM 0 1 v) 1 j' w') 0 1 := fun j j' w w' => by rw [gi_no (a := 14) (by decide), gi_no (a := 1) (by decide), gi_eq, gi_eq]
  unfold xRef mTell
  rcases hv with z | z | z | z | z <;> subst z
  · exact (B.cnt hn (Or.inl ⟨rfl, rfl⟩) (by rw [e]) (by rw [e']; rfl)).r (s _ _ _ _)
  · exact (B.cnt hn (Or.inr (Or.inl ⟨rfl, rfl⟩)) (by rw [e]) (by rw [e']; rfl)).r (s _ _ _ _)
  · exact (B.cnt hn (Or.inr (Or.inr (Or.inl ⟨rfl, rfl⟩))) (by rw [e]) (by rw [e']; rfl)).r (s _ _ _ _)
  · exact (B.cnt hn (Or.inr (Or.inr (Or.inr (Or.inl ⟨rfl, rfl⟩)))) (by rw [e]) (by rw [e']; rfl)).r (s _ _ _ _)
  · exact (B.cnt hn (Or.inr (Or.inr (Or.inr (Or.inr ⟨rfl, rfl⟩)))) (by rw [e]) (by rw [e']; rfl)).r (s _ _ _ _)
/-- a call that leaves the status as it was -/
theorem RR.nxt {n : Nat} {hX hX' hM hM' : AH} (H : RR n hX hM) (hn : n < 512) (sx : SameX hX hX') (sm : SameM hM hM') (e : gi hX' 0 14 = gi hX 0 14) (e' : gi hM' 0 1 = gi hM 0 1) : RR (n + 1) hX' hM' := ((H.s.same sx sm).up hn).r (by rw [e, e', H.2.2.2.2.1.2.2.2.2.1])
/-- refusals are few -/
theorem RRs.b5 {n : Nat} {hX hM : AH} (H : RRs n hX hM) : ∀ i : Int, 0 ≤ i → i < 5 → 0 ≤ gi hX 14 i ∧ gi hX 14 i ≤ 1000000 := by
  obtain ⟨-, -, -, -, ⟨-, -, -, -, ⟨b1, b2, b3, b4, b5⟩, a6, a7⟩, -, -⟩ := H
  intro i h0 h1
  have c1 := a6 1 (by omega) (by omega)
  have c2 := a6 2 (by omega) (by omega)
  have c3 := a6 3 (by omega) (by omega)
  have c5 := a6 5 (by omega) (by omega)
  have c6 := a6 6 (by omega) (by omega)
  have : i = 0 ∨ i = 1 ∨ i = 2 ∨ i = 3 ∨ i = 4 := by omega
  rcases this with z | z | z | z | z <;> subst z <;> omega
theorem RRs.b7 {n : Nat} {hX hM : AH} (H : RRs n hX hM) : ∀ i : Int, 0 ≤ i → i < 7 → 0 ≤ gi hM 1 i ∧ gi hM 1 i ≤ 1000000 := by
  obtain ⟨-, -, -, -, ⟨-, -, -, -, -, a6, a7⟩, -, -⟩ := H
  intro i h0 h1
  have := a6 i h0 h1
  omega
/-- what both answer, and the relation behind it -/
def RQ (n : Nat) (rx rm : Option AV) (hX hM : AH) : Prop := ∃ v : Int, rx = some (vI v) ∧ rm = some (vI v) ∧ RR (n + 1) hX hM
theorem RQ.mk {n : Nat} {x m : Int} {hX hM : AH} (e : x = m) (R : RR (n + 1) hX hM) : RQ n (some (vI x)) (some (vI m)) hX hM := ⟨x, rfl, by rw [e], R⟩
