/-! what a law tells: over the reference's code c and the words e -/
def mVal (c e : Int → Int) (s0 s1 : Int) : Option Int := match mEv (cOp c) (cArg c) (cLeaf c e) s1 400 s0 [] with
  | some (some s) => some (s.getD (s.length - 1) 0)
  | _ => none
/-- what clause n tells, if it holds -/
def cSay (c e : Int → Int) (n : Nat) : Option Int :=
  if c (2 + 8 * n + 5) < c (2 + 8 * n + 6) ∧ (mVal c e (c (2 + 8 * n + 5)) (c (2 + 8 * n + 6)) = none ∨ mVal c e (c (2 + 8 * n + 5)) (c (2 + 8 * n + 6)) = some 0) then none
  else if c (2 + 8 * n) < 2 then mVal c e (c (2 + 8 * n + 3)) (c (2 + 8 * n + 4)) else some 1
def mTells (c e : Int → Int) (head wo : Int) : Nat → Int
  | 0 => wo
  | n + 1 => if c (2 + 8 * n) = head then (match cSay c e n with
    | some v => v
    | none => mTells c e head wo n) else mTells c e head wo n
/-- what is reckoned has an end -/
def OkC (c e : Int → Int) (n : Nat) : Prop :=
  (c (2 + 8 * n + 5) < c (2 + 8 * n + 6) → c (2 + 8 * n + 6) ≤ 400 ∧ ∃ res, mEv (cOp c) (cArg c) (cLeaf c e) (c (2 + 8 * n + 6)) 400 (c (2 + 8 * n + 5)) [] = some res) ∧
  (c (2 + 8 * n) < 2 → c (2 + 8 * n + 4) ≤ 400 ∧ ∃ res, mEv (cOp c) (cArg c) (cLeaf c e) (c (2 + 8 * n + 4)) 400 (c (2 + 8 * n + 3)) [] = some res)
/-- the reference stands at law c, its words are e -/
def LawM (h : AH) (c e : Int → Int) : Prop := gi h 0 20 = 0 ∧ (0 ≤ gi h 0 34 ∧ gi h 0 34 ≤ 4640) ∧ (∀ j, 0 ≤ j → j < 900 → gi h 2 (gi h 0 34 + j) = c j) ∧ InvC c ∧ ∀ i, 1 ≤ i → i ≤ 11 → gl h 18 i = e i ∧ -1000000000 ≤ e i ∧ e i ≤ 1000000000
theorem LawM.fm {h h' : AH} {c e : Int → Int} (H : LawM h c e) (F : FM h h') : LawM h' c e := by
  obtain ⟨h1, h2, h3, h4, h5⟩ := H
  have e1 : gi h' 0 20 = gi h 0 20 := F.1 _ _ (by omega)
  have e2 : gi h' 0 34 = gi h 0 34 := F.1 _ _ (by omega)
  refine ⟨e1.trans h1, by rw [e2]; exact h2, fun j j0 j1 => ?_, h4, fun i i0 i1 => ?_⟩
  · rw [e2, F.1 _ _ (by omega)]
    exact h3 j j0 j1
  · rw [F.2 18 i (by decide) (by omega)]
    exact h5 i i0 i1
theorem LawM.mod {h : AH} {c e : Int → Int} (H : LawM h c e) : ModM (si h 0 38 0) (cOp c) (cArg c) (cLeaf c e) := by
  obtain ⟨h1, h2, h3, h4, h5⟩ := H
  have e1 : gi (si h 0 38 0) 0 20 = gi h 0 20 := gi_nk (by omega)
  have e2 : gi (si h 0 38 0) 0 34 = gi h 0 34 := gi_nk (by omega)
  refine Or.inl ⟨e1.trans h1, by rw [e2]; exact h2.1, by rw [e2]; exact h2.2, fun k k0 k1 => ?_⟩
  obtain ⟨q1, -, q3⟩ := h4 k k0 k1
  rw [e2]
  refine ⟨?_, ?_, q1, fun q4 => ⟨by have := (q3 q4).1; omega, ?_⟩⟩
  · rw [gi_o (by decide)]
    unfold cOp
    rw [← h3 (98 + 2 * k) (by omega) (by omega)]
    congr 1
    omega
  · rw [gi_o (by decide)]
    unfold cArg
    rw [← h3 (98 + 2 * k + 1) (by omega) (by omega)]
    congr 1
    omega
  · unfold cLeaf
    by_cases z : cOp c k = 0
    · rw [if_pos z, if_pos z]
    · rw [if_neg z, if_neg z]
      exact (h5 _ (by omega) (q3 q4).1).1.symm
theorem LawM.leaf {h : AH} {c e : Int → Int} (H : LawM h c e) : ∀ k, 0 ≤ k → k < 400 → cOp c k < 20 → -1000000000 ≤ cLeaf c e k ∧ cLeaf c e k ≤ 1000000000 := by
  obtain ⟨-, -, -, h4, h5⟩ := H
  intro k k0 k1 k2
  obtain ⟨q1, -, q3⟩ := h4 k k0 k1
  obtain ⟨q4, q5, q6⟩ := q3 k2
  unfold cLeaf
  by_cases z : cOp c k = 0
  · rw [if_pos z]
    exact ⟨q5, q6⟩
  · rw [if_neg z]
    exact (h5 _ (by omega) q4).2
theorem c_X8_rk {d b : Nat} {Q : Option AV → AH → Prop} {h : AH} {c e : Int → Int} {x y : Int} (H : LawM h c e) (hy : y ≤ 400 ∧ ∃ res, mEv (cOp c) (cArg c) (cLeaf c e) y 400 x [] = some res)
    (k1 : ∀ v h', FM h h' → mVal c e x y = some v → gi h' 0 38 = 0 → gl h' 0 39 = v → Q none h') (k2 : ∀ h', FM h h' → mVal c e x y = none → gi h' 0 38 = 1 → Q none h') : WM GM (d + 2) b mX8_reckonAll [vR (some 0), vI x, vI y] h Q := by
  obtain ⟨hy, res, hE⟩ := hy
  refine c_X8_reckonAll H.mod H.leaf hy hE (fun h' F r => ?_)
  rcases r with ⟨s', r1, r2, r3⟩ | ⟨r1, r2⟩
  · subst r1
    exact k1 _ h' F (by unfold mVal; rw [hE]) r2 r3
  · subst r1
    exact k2 h' F (by unfold mVal; rw [hE]) r2
theorem c_X8_isSo {d b : Nat} {Q : Option AV → AH → Prop} {h : AH} {c e : Int → Int} {n : Nat} {x : Int} (H : LawM h c e) (hn : n < 12) (hx : x = gi h 0 34 + 2 + 8 * n) (hO : OkC c e n)
    (k0 : ∀ h', FM h h' → cSay c e n = none → Q (some (vI 0)) h') (k1 : ∀ v h', FM h h' → cSay c e n = some v → (c (2 + 8 * n) < 2 → gl h' 0 40 = v) → (¬ c (2 + 8 * n) < 2 → v = 1) → Q (some (vI 1)) h') : WM GM (d + 3) b mX8_isSo [vR (some 0), vI x] h Q := by
  have hb := H.2.1
  have at_ : ∀ h' j, FM h h' → 0 ≤ j → j < 8 → gi h' 2 (x + j) = c (2 + 8 * n + j) := fun h' j F j0 j1 => by
    rw [F.1 _ _ (by omega), ← H.2.2.1 (2 + 8 * n + j) (by omega) (by omega), hx]
    congr 1
    omega
  have a0 : ∀ h', FM h h' → gi h' 2 x = c (2 + 8 * n) := fun h' F => by
    have := at_ h' 0 F (by decide) (by decide)
    simpa using this
  have sum : ∀ h', FM h h' → c (2 + 8 * n) < 2 → ¬ (c (2 + 8 * n + 5) < c (2 + 8 * n + 6) ∧ (mVal c e (c (2 + 8 * n + 5)) (c (2 + 8 * n + 6)) = none ∨ mVal c e (c (2 + 8 * n + 5)) (c (2 + 8 * n + 6)) = some 0)) →
      WM GM (d + 2) 0 mX8_reckonAll [vR (some 0), vI (gi h' 2 (x + 3)), vI (gi h' 2 (x + 4))] h' (fun r h1 => r = none ∧ ∀ h2, h2 = sl h1 0 40 (gl h1 0 39) → (gi h1 0 38 = 0 → Q (some (vI 1)) h2) ∧ (¬(gi h1 0 38 = 0) → Q (some (vI 0)) h2)) := fun h' F lt ng => by
    rw [at_ h' 3 F (by decide) (by decide), at_ h' 4 F (by decide) (by decide)]
    refine c_X8_rk (H.fm F) (hO.2 lt) (fun v h1 F1 m1 z1 z2 => ⟨rfl, fun h2 e2 => ⟨fun _ => ?_, fun z => absurd z1 z⟩⟩) (fun h1 F1 m1 z1 => ⟨rfl, fun h2 e2 => ⟨fun z => by omega, fun z => ?_⟩⟩)
    · subst e2
      exact k1 v _ ((F.trans F1).sl (Or.inr ⟨rfl, Or.inr rfl⟩)) (by unfold cSay; rw [if_neg ng, if_pos lt, m1]) (fun _ => by rw [gl_eq, z2]) (fun z => absurd lt z)
    · subst e2
      exact k0 _ ((F.trans F1).sl (Or.inr ⟨rfl, Or.inr rfl⟩)) (by unfold cSay; rw [if_neg ng, if_pos lt, m1])
  have noS : ∀ h', FM h h' → ¬ c (2 + 8 * n) < 2 → ¬ (c (2 + 8 * n + 5) < c (2 + 8 * n + 6) ∧ (mVal c e (c (2 + 8 * n + 5)) (c (2 + 8 * n + 6)) = none ∨ mVal c e (c (2 + 8 * n + 5)) (c (2 + 8 * n + 6)) = some 0)) → Q (some (vI 1)) h' := fun h' F lt ng =>
    k1 1 h' F (by unfold cSay; rw [if_neg ng, if_neg lt]) (fun z => absurd z lt) (fun _ => rfl)
  have t5 := at_ h 5 FM.rfl' (by decide) (by decide)
  have t6 := at_ h 6 FM.rfl' (by decide) (by decide)
  have t0 := a0 h FM.rfl'
  refine w_X8_isSo ⟨by omega, by omega, by omega, by omega, fun c1 => ⟨by omega, fun c2 => ?_, fun c2 => ⟨by omega, by omega, by omega, by omega, ?_⟩⟩, fun c1 => ⟨by omega, by omega, by omega, by omega, ?_⟩⟩
  · exact noS h FM.rfl' (by omega) (by omega)
  · exact sum h FM.rfl' (by omega) (by omega)
  · rw [t5, t6]
    refine c_X8_rk H (hO.1 (by omega)) (fun v h1 F1 m1 z1 z2 => ⟨rfl, fun _ => ⟨fun c2 => ?_, fun c2 => ⟨by omega, fun c3 => ?_, fun c3 => ⟨by omega, by omega, by omega, by omega, ?_⟩⟩⟩, fun z => absurd z1 z⟩) (fun h1 F1 m1 z1 => ⟨rfl, fun z => by omega, fun _ => ?_⟩)
    · exact k0 h1 F1 (by unfold cSay; rw [if_pos ⟨by omega, Or.inr (by rw [m1, ← z2, c2])⟩])
    · rw [a0 h1 F1] at c3
      exact noS h1 F1 (by omega) (fun z => by
        rw [m1] at z
        rcases z.2 with z | z
        · cases z
        · cases z; omega)
    · rw [a0 h1 F1] at c3
      exact sum h1 F1 (by omega) (fun z => by
        rw [m1] at z
        rcases z.2 with z | z
        · cases z
        · cases z; omega)
    · exact k0 h1 F1 (by unfold cSay; rw [if_pos ⟨by omega, Or.inl m1⟩])
/-- what telling may change -/
def TL (h0 h : AH) : Prop := (∀ q k, ¬ (q = 0 ∧ (k = 34 ∨ k = 38)) → gi h q k = gi h0 q k) ∧ ∀ q k, q ≠ 18 → q ≠ 20 → (q ≠ 0 ∨ k = 54) → gl h q k = gl h0 q k
theorem TL.rfl' {h : AH} : TL h h := ⟨fun _ _ _ => rfl, fun _ _ _ _ _ => rfl⟩
theorem TL.trans {a b c : AH} (x : TL a b) (y : TL b c) : TL a c := ⟨fun q k z => (y.1 q k z).trans (x.1 q k z), fun q k z w u => (y.2 q k z w u).trans (x.2 q k z w u)⟩
theorem FM.tl {a b : AH} (x : FM a b) : TL a b := ⟨fun q k z => x.1 q k (by omega), fun q k z w u => x.2 q k w (by omega)⟩
theorem lp_tells {d b : Nat} {Q : Option AV → AH → Prop} {h0 : AH} {c e : Int → Int} {head wo : Int} (hc : 0 ≤ c 1 ∧ c 1 ≤ 12) (hO : ∀ n : Nat, (n : Int) < c 1 → OkC c e n) (kQ : ∀ h', TL h0 h' → Q (some (vL (mTells c e head wo (c 1).toNat))) h') :
    ∀ (m n : Nat) (h : AH), (n : Int) + m = c 1 → LawM h c e → TL h0 h → Lp_X8_tells_189 d b Q head (mTells c e head wo n) n h
  | m, n, h, hm, H, T => by
    have e1 := H.2.2.1 1 (by decide) (by decide)
    have hb := H.2.1
    refine l_X8_tells_189 ⟨by omega, by omega, fun z => ?_, fun z => ?_⟩
    · have : (c 1).toNat = n := by omega
      rw [← this]
      exact kQ h T
    rw [e1] at z
    match m, hm with
    | 0, hm => omega
    | m + 1, hm =>
      have e2 : gi h 2 (gi h 0 34 + 2 + 8 * n) = c (2 + 8 * n) := by
        rw [← H.2.2.1 (2 + 8 * n) (by omega) (by omega)]
        congr 1
        omega
      have nx : ∀ v h', FM h h' → mTells c e head wo (n + 1) = v → Lp_X8_tells_189 d b Q head v ((n : Int) + 1) h' := fun v h' F ev => by
        have := lp_tells (d := d) (b := b) hc hO kQ m (n + 1) h' (by omega) (H.fm F) (T.trans F.tl)
        rw [ev] at this
        exact this
      refine ⟨by omega, by omega, by omega, by omega, fun c1 => ?_, fun c1 => ⟨by omega, nx _ h FM.rfl' (by show (if _ then _ else _) = _; rw [if_neg (by omega)])⟩⟩
      rw [e2] at c1
      refine c_X8_isSo H (by omega) rfl (hO n (by omega)) (fun h' F s => ⟨0, rfl, fun _ => ⟨by omega, nx _ h' F (by show (if _ then _ else _) = _; rw [if_pos c1, s])⟩, fun z => absurd rfl z⟩) (fun v h' F s s1 s2 => ⟨1, rfl, fun z => by omega, fun _ => ⟨fun c2 => ⟨by omega, nx _ h' F (by show (if _ then _ else _) = _; rw [if_pos c1, s]; exact s2 (by omega))⟩, fun c2 => ⟨by omega, nx _ h' F (by show (if _ then _ else _) = _; rw [if_pos c1, s]; exact (s1 (by omega)).symm)⟩⟩⟩)
