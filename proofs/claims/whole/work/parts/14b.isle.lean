/-! writes on the isle: the relation behind them; what always holds of the row -/
def SameXe (E : Nat → Int → Prop) (h h' : AH) : Prop := DynX h h' ∧ (∀ q k, coreX q k → ¬ E q k → gi h' q k = gi h q k) ∧ ∀ q k, q < 76 → q ≠ 13 → rf h' q k = rf h q k
def SameMe (E : Nat → Int → Prop) (h h' : AH) : Prop := (∀ q k, coreM q k → ¬ E q k → gi h' q k = gi h q k) ∧ ∀ q k, (q = 15 ∨ q = 16 ∨ q = 17 ∨ q = 28) → gl h' q k = gl h q k
abbrev eX1 (q : Nat) (k : Int) : Prop := (1 ≤ q ∧ q ≤ 13) ∨ (q = 41 ∧ k = 1)
abbrev eM1 (q : Nat) (k : Int) : Prop := q = 2 ∨ (q = 0 ∧ k = 8)
theorem SameXe.rfl' {E : Nat → Int → Prop} {h : AH} : SameXe E h h := ⟨DynX.rfl', fun _ _ _ _ => rfl, fun _ _ _ _ => rfl⟩
theorem SameMe.rfl' {E : Nat → Int → Prop} {h : AH} : SameMe E h h := ⟨fun _ _ _ _ => rfl, fun _ _ _ => rfl⟩
theorem SameXe.si {E : Nat → Int → Prop} {h0 h : AH} (e : SameXe E h0 h) {a : Nat} {k v : Int} (ha : a < 76 ∧ (coreX a k → E a k)) : SameXe E h0 (si h a k v) := ⟨e.1.si ha.1, fun q j z z2 => by
  have w : ¬ (q = a ∧ j = k) := by
    rintro ⟨e1, e2⟩
    subst e1
    subst e2
    exact z2 (ha.2 z)
  rw [gi_si, if_neg w]
  exact e.2.1 q j z z2, e.2.2⟩
theorem SameMe.si {E : Nat → Int → Prop} {h0 h : AH} (e : SameMe E h0 h) {a : Nat} {k v : Int} (ha : coreM a k → E a k) : SameMe E h0 (si h a k v) := ⟨fun q j z z2 => by
  have w : ¬ (q = a ∧ j = k) := by
    rintro ⟨e1, e2⟩
    subst e1
    subst e2
    exact z2 (ha z)
  rw [gi_si, if_neg w]
  exact e.1 q j z z2, e.2⟩
theorem RRs.isle {n : Nat} {hX hX' hM hM' : AH} (H : RRs n hX hM) (ra : RA hX' 1 (gi hM' 2)) (sx : SameXe eX1 hX hX') (sm : SameMe eM1 hM hM')
    (hu : (gi hX' 41 1 = gi hX 41 1 ∧ gi hM' 0 8 = gi hM 0 8 ∧ gi hM' 2 6 = gi hM 2 6 ∧ ∀ u, InvR (backR (gi hM 2) u) → InvR (backR (gi hM' 2) u)) ∨ (gi hX' 41 1 = 0 ∧ gi hM' 0 8 = 0)) : RRs n hX' hM' := by
  obtain ⟨h1, h2, h3, h4, h5, h6, h7⟩ := H
  obtain ⟨x1, x2, x3⟩ := sx
  obtain ⟨m1, m2⟩ := sm
  refine ⟨ra, ?_,
    h3.to (fun k => x2 _ _ (by unfold coreX; omega) (by unfold eX1; omega)) (fun q a b k => x2 _ _ (by unfold coreX; omega) (by unfold eX1; omega)) x1 (fun q a b k => x3 _ _ (by omega) (by omega)) (fun k => m1 _ _ (by unfold coreM; omega) (by unfold eM1; omega)) (fun k => m1 _ _ (by unfold coreM; omega) (by unfold eM1; omega)),
    h4.to (x2 _ _ (by unfold coreX; omega) (by unfold eX1; omega)) (fun q a b k => x2 _ _ (by unfold coreX; omega) (by unfold eX1; omega)) (fun k => x2 _ _ (by unfold coreX; omega) (by unfold eX1; omega)) (m1 _ _ (by unfold coreM; omega) (by unfold eM1; omega)) (fun k => m1 _ _ (by unfold coreM; omega) (by unfold eM1; omega)) (fun k => m1 _ _ (by unfold coreM; omega) (by unfold eM1; omega)),
    h5.to (x2 _ _ (by unfold coreX; omega) (by unfold eX1; omega)) (fun k => x2 _ _ (by unfold coreX; omega) (by unfold eX1; omega)) (x2 _ _ (by unfold coreX; omega) (by unfold eX1; omega)) (x2 _ _ (by unfold coreX; omega) (by unfold eX1; omega)) (x2 _ _ (by unfold coreX; omega) (by unfold eX1; omega)) (fun k => x2 _ _ (by unfold coreX; omega) (by unfold eX1; omega)) (m1 _ _ (by unfold coreM; omega) (by unfold eM1; omega)) (fun k => m1 _ _ (by unfold coreM; omega) (by unfold eM1; omega)) (m1 _ _ (by unfold coreM; omega) (by unfold eM1; omega)) (m1 _ _ (by unfold coreM; omega) (by unfold eM1; omega)) (m1 _ _ (by unfold coreM; omega) (by unfold eM1; omega)) (fun k => m1 _ _ (by unfold coreM; omega) (by unfold eM1; omega)),
    h6.to (m1 _ _ (by unfold coreM; omega) (by unfold eM1; omega)) (fun q z k => m2 q k z), Nat.le_trans h7 x1.1⟩
  rcases hu with ⟨u1, u2, u3, u4⟩ | ⟨u1, u2⟩
  · exact h2.to u1 (fun k => x2 _ _ (by unfold coreX; omega) (by unfold eX1; omega)) u2 (fun k => m1 _ _ (by unfold coreM; omega) (by unfold eM1; omega)) (fun k => m1 _ _ (by unfold coreM; omega) (by unfold eM1; omega)) u3 u4
  · exact RU.none u1 u2
/-- a row that differs in a few places alone -/
theorem backR_up {r u : Int → Int} {k v : Int} (hk : k < 5 ∨ 64 ≤ k) : backR (up1 r k v) u = up1 (backR r u) k v := by
  funext j
  unfold backR up1
  by_cases e : j = k
  · subst e
    rw [if_neg (by omega), if_pos rfl, if_pos rfl]
  · rw [if_neg e, if_neg e]
theorem backR_at {r u : Int → Int} {k : Int} (hk : k < 5 ∨ 64 ≤ k) : backR r u k = r k := if_neg (by omega)
theorem RTx.up {h h' : AH} {o : Nat} {r : Int → Int} (H : RTx h o r) (e : DynX h h') (e1 : ∀ i, rf h' (o + 12) i = rf h (o + 12) i) {k v : Int} (hk : k < 140 ∧ k ≠ 3) : RTx h' o (up1 r k v) := H.to e (fun i _ _ => e1 i) (up1_ne (by omega)) (fun j hj => up1_ne (by omega))
