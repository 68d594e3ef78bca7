/-! deeds in the class -/
abbrev canR (r : Int → Int) (k d to : Int) : Prop := (k = 0 ∧ ¬ (r (7 + d) = -1) ∧ ¬ rBar r d) ∨ (k = 1 ∧ ¬ (r (15 + d) = -1) ∧ ¬ (zbes (r (15 + d)) to = -1)) ∨ (k = 2 ∧ ¬ (r (15 + d) = -1)) ∨ (k = 3 ∧ r (15 + d) = 0 ∧ dOf r to = -1 ∧ rFits r d to)
def refR (r : Int → Int) (k d to : Int) : Int :=
  if k = 4 then (if 999 ≤ r 5 then -3 else 0)
  else if k = 1 ∧ ¬ (1 ≤ to ∧ to ≤ 4) then -1
  else if ¬ (0 ≤ d ∧ d < r 1) then -2
  else if k = 3 ∧ ¬ (0 ≤ to ∧ to < r 0) then -2
  else if canR r k d to then 0 else -3
theorem refR_4 {r : Int → Int} {d to : Int} : refR r 4 d to = if 999 ≤ r 5 then -3 else 0 := if_pos rfl
theorem refR_by {r : Int → Int} {d to : Int} (h : ¬ (1 ≤ to ∧ to ≤ 4)) : refR r 1 d to = -1 := by
  unfold refR
  rw [if_neg (by decide), if_pos ⟨rfl, h⟩]
theorem refR_d {r : Int → Int} {k d to : Int} (h4 : k ≠ 4) (h1 : ¬ (k = 1 ∧ ¬ (1 ≤ to ∧ to ≤ 4))) (hd : ¬ (0 ≤ d ∧ d < r 1)) : refR r k d to = -2 := by
  unfold refR
  rw [if_neg h4, if_neg h1, if_pos hd]
theorem refR_h {r : Int → Int} {d to : Int} (hh : ¬ (0 ≤ to ∧ to < r 0)) : refR r 3 d to = -2 := by
  unfold refR
  rw [if_neg (by decide), if_neg (fun z => absurd z.1 (by decide)), if_pos (c := (3 : Int) = 3 ∧ ¬ (0 ≤ to ∧ to < r 0)) ⟨rfl, hh⟩]
  split <;> rfl
theorem refR_c {r : Int → Int} {k d to : Int} (h4 : k ≠ 4) (h1 : ¬ (k = 1 ∧ ¬ (1 ≤ to ∧ to ≤ 4))) (hd : 0 ≤ d ∧ d < r 1) (h3 : ¬ (k = 3 ∧ ¬ (0 ≤ to ∧ to < r 0))) : refR r k d to = if canR r k d to then 0 else -3 := by
  unfold refR
  rw [if_neg h4, if_neg h1, if_neg (not_not_intro hd), if_neg h3]
theorem refR_vals (r : Int → Int) (k d to : Int) : refR r k d to = 0 ∨ refR r k d to = -1 ∨ refR r k d to = -2 ∨ refR r k d to = -3 := by
  unfold refR
  repeat' split
  all_goals omega
/-- what a deed makes of the row -/
def actR (r : Int → Int) (k d to : Int) : Int → Int :=
  if k = 0 then launchR r d else if k = 1 then up1 r (15 + d) (zbes (r (15 + d)) to) else if k = 2 then fishR r d (rCatch r d (r (15 + d)) (r (39 + r (15 + d))) (r (23 + d))) else if k = 3 then hangR r d to else tideR r
/-- and answers -/
def actN (r : Int → Int) (k d to : Int) : Int :=
  if k = 0 then 0 else if k = 1 then zbes (r (15 + d)) to else if k = 2 then rCatch r d (r (15 + d)) (r (39 + r (15 + d))) (r (23 + d)) else if k = 3 then r (23 + d) else tideN r
theorem c_X7_refusal {dd b : Nat} {Q : Option AV → AH → Prop} {h : AH} {r : Int → Int} {k d to : Int} (A : RA h 1 r) (hk : k = 0 ∨ k = 1 ∨ k = 2 ∨ k = 3 ∨ k = 4) (hQ : ∀ h', JX h h' → Q (some (vI (refR r k d to))) h') : WM GX (dd + 4) b mX7_refusal [vR (some 0), vI k, vI d, vI to] h Q := by
  have I1 := A.2.2.1
  have e1 : r 1 = gi h 1 2 := A.1.doors
  have e0 : r 0 = gi h 1 0 := A.1.houses
  have e5 : r 5 = gi h 1 14 := A.1.day
  have q0 := hQ h JX.rfl'
  have eh : 0 ≤ d ∧ d < 8 → r (7 + d) = gi h 7 d := fun z => A.1.hangs z
  have ec : 0 ≤ d ∧ d < 8 → r (15 + d) = gi h 8 d := fun z => A.1.cell z
  have cr : 0 ≤ d ∧ d < r 1 → -1 ≤ r (15 + d) ∧ r (15 + d) ≤ 24 := fun z => by
    have := A.2.2.2.1 d z.1 z.2
    omega
  rcases hk with z | z | z | z | z <;> subst z
  · refine w_X7_refusal ⟨fun c => absurd c (by decide), fun _ => ⟨fun c => absurd c (by decide), fun _ => ⟨fun c => ⟨fun c => absurd c (by decide), fun _ => ?_⟩, fun c => qi q0 (refR_d (by decide) (by omega) (by omega))⟩⟩⟩
    have c' : 0 ≤ d ∧ d < r 1 := by omega
    have c8 : 0 ≤ d ∧ d < 8 := by omega
    have e := refR_c (r := r) (k := 0) (to := to) (by decide) (by omega) c' (by omega)
    refine ⟨c8, fun _ => ⟨c8, fun z => qi q0 ?_, fun z => ?_⟩, fun c => absurd rfl c⟩
    · rw [e, if_neg]
      rw [← eh c8] at z
      unfold canR
      omega
    · rw [← eh c8] at z
      refine c_X1_isBarred (by decide) A c' (fun h' J => ⟨_, rfl, fun w => qi (hQ h' J) ?_, fun w => qi (hQ h' J) ?_⟩)
      · have w' := b2i_0.mp w
        rw [e, if_pos]
        unfold canR
        exact Or.inl ⟨rfl, z, fun y => w' ⟨z, y⟩⟩
      · have w' := b2i_n0.mp w
        rw [e, if_neg]
        unfold canR
        rintro (y | y | y | y)
        · exact y.2.2 w'.2
        · exact absurd y.1 (by decide)
        · exact absurd y.1 (by decide)
        · exact absurd y.1 (by decide)
  · refine w_X7_refusal ⟨fun c => absurd c (by decide), fun _ => ⟨fun _ => ⟨fun c => qi q0 (refR_by (by omega)), fun c1 => ⟨fun c2 => ⟨fun c => ⟨fun c => absurd c (by decide), fun _ => ?_⟩, fun c => qi q0 (refR_d (by decide) (by omega) (by omega))⟩, fun c => qi q0 (refR_by (by omega))⟩⟩, fun c => absurd rfl c⟩⟩
    have c' : 0 ≤ d ∧ d < r 1 := by omega
    have c8 : 0 ≤ d ∧ d < 8 := by omega
    have e := refR_c (r := r) (k := 1) (to := to) (by decide) (by omega) c' (by omega)
    have cr' := cr c'
    rw [← ec c8]
    refine ⟨c8, fun c => absurd c (by decide), fun _ => ⟨fun _ => ⟨fun z => qi q0 ?_, fun z => ⟨by omega, fun w => qi q0 ?_, fun w => qi q0 ?_⟩⟩, fun c => absurd rfl c⟩⟩
    · rw [e, if_neg]
      unfold canR
      omega
    · rw [e, if_neg]
      unfold canR
      omega
    · rw [e, if_pos]
      unfold canR
      omega
  · refine w_X7_refusal ⟨fun c => absurd c (by decide), fun _ => ⟨fun c => absurd c (by decide), fun _ => ⟨fun c => ⟨fun c => absurd c (by decide), fun _ => ?_⟩, fun c => qi q0 (refR_d (by decide) (by omega) (by omega))⟩⟩⟩
    have c' : 0 ≤ d ∧ d < r 1 := by omega
    have c8 : 0 ≤ d ∧ d < 8 := by omega
    have e := refR_c (r := r) (k := 2) (to := to) (by decide) (by omega) c' (by omega)
    rw [← ec c8]
    refine ⟨c8, fun c => absurd c (by decide), fun _ => ⟨fun c => absurd c (by decide), fun _ => ⟨fun _ => ⟨fun z => qi q0 ?_, fun z => qi q0 ?_⟩, fun c => absurd rfl c⟩⟩⟩
    · rw [e, if_neg]
      unfold canR
      omega
    · rw [e, if_pos]
      unfold canR
      omega
  · refine w_X7_refusal ⟨fun c => absurd c (by decide), fun _ => ⟨fun c => absurd c (by decide), fun _ => ⟨fun c => ⟨fun _ => ⟨fun ch => ?_, fun ch => qi q0 (refR_h (by omega))⟩, fun c => absurd rfl c⟩, fun c => qi q0 (refR_d (by decide) (by omega) (by omega))⟩⟩⟩
    have c' : 0 ≤ d ∧ d < r 1 := by omega
    have c8 : 0 ≤ d ∧ d < 8 := by omega
    have ch' : 0 ≤ to ∧ to < r 0 := by omega
    have e := refR_c (r := r) (k := 3) (to := to) (by decide) (by omega) c' (by omega)
    have ed : dIn (gi h 7) to (gi h 1 2).toNat 0 = dOf r to := A.di to
    rw [← ec c8, ed]
    refine ⟨c8, fun c => absurd c (by decide), fun _ => ⟨fun c => absurd c (by decide), fun _ => ⟨fun c => absurd c (by decide), fun _ => ⟨fun z => ⟨by omega, fun w => ?_, fun w => qi q0 ?_⟩, fun z => qi q0 ?_⟩⟩⟩⟩
    · refine c_X1_isFitting (by decide) A c' ch' (fun h' J => ⟨_, rfl, fun v => qi (hQ h' J) ?_, fun v => qi (hQ h' J) ?_⟩)
      · have v' := b2i_0.mp v
        rw [e, if_neg]
        unfold canR
        rintro (y | y | y | y)
        · exact absurd y.1 (by decide)
        · exact absurd y.1 (by decide)
        · exact absurd y.1 (by decide)
        · exact v' y.2.2.2
      · have v' := b2i_n0.mp v
        rw [e, if_pos]
        unfold canR
        exact Or.inr (Or.inr (Or.inr ⟨rfl, z, w, v'⟩))
    · rw [e, if_neg]
      unfold canR
      rintro (y | y | y | y)
      · exact absurd y.1 (by decide)
      · exact absurd y.1 (by decide)
      · exact absurd y.1 (by decide)
      · exact w y.2.2.1
    · rw [e, if_neg]
      unfold canR
      rintro (y | y | y | y)
      · exact absurd y.1 (by decide)
      · exact absurd y.1 (by decide)
      · exact absurd y.1 (by decide)
      · exact z y.2.1
  · refine w_X7_refusal ⟨fun _ => ⟨fun c => qi q0 ?_, fun c => qi q0 ?_⟩, fun c => absurd rfl c⟩
    · rw [refR_4, if_pos (by omega)]
    · rw [refR_4, if_neg (by omega)]
/-- an isle that differs where deeds write -/
theorem RA.fr {h h' : AH} {o : Nat} {E : Nat → Int → Prop} {r r' : Int → Int} (A : RA h o r) (F : FrX E h h') (hE : ∀ q k, E q k → q < 76) (O : Out r r') (I : RIs h' o r') (V : InvR r') : RA h' o r' :=
  ⟨I, A.2.1.to (F.dyn hE) (fun i _ _ => by rw [F.2.1]) (O 3 (by omega)) (fun j hj => O j (by omega)), V⟩
theorem Out.launch {r : Int → Int} {d : Int} (hd : 0 ≤ d ∧ d < 8) : Out r (launchR r d) := by
  unfold launchR
  exact (Out.rfl'.up (by omega)).up (by omega)
theorem Out.lose {r : Int → Int} {d : Int} (hd : 0 ≤ d ∧ d < 8) : Out r (loseR r d) := by
  unfold loseR
  exact (Out.rfl'.up (by omega)).up (by omega)
theorem Out.hang {r : Int → Int} {d x : Int} (hd : 0 ≤ d ∧ d < 8) : Out r (hangR r d x) := by
  unfold hangR
  exact ((Out.rfl'.up (by omega)).up (by omega)).up (by omega)
theorem Out.fish {r : Int → Int} {d x : Int} (hd : 0 ≤ d ∧ d < 8) (hc : 0 ≤ r (15 + d) ∧ r (15 + d) < 25) : Out r (fishR r d x) := by
  unfold fishR
  exact (Out.rfl'.up (by omega)).up (by omega)
theorem c_X0_take {dd b : Nat} {Q : Option AV → AH → Prop} {h : AH} {o : Nat} {r : Int → Int} {d its : Int} (ho : isl o) (A : RA h o r) (hd : 0 ≤ d ∧ d < r 1) (hs : r (15 + d) ≠ -1) (hi : 0 ≤ its ∧ its ≤ r (39 + r (15 + d))) (hQ : ∀ h', RA h' o (fishR r d its) → FrX (EI o) h h' → Q none h') : WM GX (dd + 1) b mX0_take [vR (some o), vI d, vI its] h Q := by
  have I1 := A.2.2.1
  have I2 := A.2.2.2.1 d hd.1 hd.2
  have c8 : 0 ≤ d ∧ d < 8 := by omega
  have cb : 0 ≤ r (15 + d) ∧ r (15 + d) < 25 := by omega
  have ec : r (15 + d) = gi h (o + 7) d := A.1.cell c8
  have eg : r (23 + d) = gi h (o + 8) d := A.1.caught c8
  have ef : r (39 + r (15 + d)) = gi h (o + 9) (r (15 + d)) := A.1.fish cb
  have I3 := A.2.2.2.2.2.1 (r (15 + d)) cb.1 cb.2
  have gb : 0 ≤ r (23 + d) ∧ r (23 + d) ≤ 999 := by omega
  clear I2
  refine w_X0_take ho ?_
  rw [← ec, ← eg, ← ef]
  refine ⟨c8, fun _ => ⟨c8, by omega, c8, fun h1 e1 => ⟨cb, ?_, cb, fun h2 e2 => ?_⟩⟩, fun z => by omega⟩
  · omega
  rw [e1] at e2
  have F : FrX (EI o) h h2 := by
    rw [e2]
    exact (FrX.rfl'.wi (by unfold EI; omega)).wi (by unfold EI; omega)
  have l1 := la_23 c8
  have l2 := la_39 cb
  have I : RIs h2 o (fishR r d its) := by
    rw [e2]
    unfold fishR
    exact (A.1.set (by unfold okP; omega) (by rw [l1.1]) l1.2.symm).set (by unfold okP; omega) (by rw [l2.1]) l2.2.symm
  exact hQ _ (A.fr F (EI_77 ho) (Out.fish c8 cb) I (A.2.2.fishes hd hs hi)) F
/-! the tide -/
theorem tdD_O (r : Int → Int) : ∀ (n : Nat) (d : Int) (s : Int → Int), 0 ≤ d → d + n ≤ 8 → Out r s → Out r (tdD n d s)
  | 0, _, _, _, _, H => H
  | n + 1, d, s, h0, h8, H => by
    unfold tdD
    split
    · exact tdD_O r n (d + 1) s (by omega) (by omega) H
    split
    · exact tdD_O r n (d + 1) _ (by omega) (by omega) (H.trans (Out.lose (by omega)))
    · exact tdD_O r n (d + 1) _ (by omega) (by omega) (H.up (by omega))
theorem tdC_O (r : Int → Int) : ∀ (n : Nat) (c : Int) (s : Int → Int), 0 ≤ c → c + n ≤ 25 → Out r s → Out r (tdC n c s)
  | 0, _, _, _, _, H => H
  | n + 1, c, s, h0, h8, H => by
    unfold tdC
    exact tdC_O r n (c + 1) _ (by omega) (by omega) (H.up (by omega))
theorem tdD_V : ∀ (n : Nat) (d : Int) (r : Int → Int), 0 ≤ d → d + n = r 1 → InvR r → InvR (tdD n d r)
  | 0, _, _, _, _, V => V
  | n + 1, d, r, h0, h1, V => by
    have V1 := V.1
    have V2 := V.2.1 d h0 (by omega)
    have V3 : -1 ≤ r (15 + d) ∧ r (15 + d) ≤ 24 := by omega
    clear V2
    unfold tdD
    split
    · exact tdD_V n (d + 1) r (by omega) (by omega) V
    next c =>
    split
    · refine tdD_V n (d + 1) _ (by omega) ?_ (V.lose (by omega) c)
      rw [(Out.lose (r := r) (d := d) (by omega)) 1 (by omega)]
      omega
    next c2 =>
    · have zb := zbes_R (c := r (15 + d)) (x := r (104 + r (15 + d))) (by omega)
      refine tdD_V n (d + 1) _ (by omega) ?_ (V.sea (by omega) c (by omega))
      rw [up1_ne (by omega)]
      omega
theorem tdC_V : ∀ (n : Nat) (c : Int) (r : Int → Int), 0 ≤ c → c + n ≤ 25 → InvR r → InvR (tdC n c r)
  | 0, _, _, _, _, V => V
  | n + 1, c, r, h0, h1, V => by
    have V3 := (V.2.2.2.1 c h0 (by omega)).1
    unfold tdC
    exact tdC_V n (c + 1) _ (by omega) (by omega) (V.fish (by omega) (by omega))
theorem tide_5 {r : Int → Int} (h : 0 ≤ r 1 ∧ r 1 ≤ 8) : (tdC 25 0 (tdD (r 1).toNat 0 r)) 5 = r 5 := by
  have a : ∀ (n : Nat) (c : Int) (s : Int → Int), 0 ≤ c → (tdC n c s) 5 = s 5 := by
    intro n
    induction n with
    | zero => intro c s _; rfl
    | succ n ih =>
      intro c s h0
      unfold tdC
      rw [ih (c + 1) _ (by omega), up1_ne (by omega)]
  have e : ∀ (n : Nat) (c : Int) (s : Int → Int), 0 ≤ c → (tdD n c s) 5 = s 5 := by
    intro n
    induction n with
    | zero => intro c s _; rfl
    | succ n ih =>
      intro c s h0
      unfold tdD
      split
      · exact ih (c + 1) s (by omega)
      split
      · rw [ih (c + 1) _ (by omega)]
        unfold loseR
        rw [up1_ne (by omega), up1_ne (by omega)]
      · rw [ih (c + 1) _ (by omega), up1_ne (by omega)]
  rw [a 25 0 _ (by decide), e _ 0 _ (by decide)]
theorem tide_V {r : Int → Int} (V : InvR r) (h5 : r 5 < 999) : InvR (tideR r) := by
  have V1 := V.1
  have e5 := tide_5 (r := r) (by omega)
  unfold tideR
  dsimp only
  exact (tdC_V 25 0 _ (by decide) (by decide) (tdD_V (r 1).toNat 0 r (by decide) (by omega) V)).day (by rw [e5]; omega)
theorem Out.tide {r : Int → Int} (h : 0 ≤ r 1 ∧ r 1 ≤ 8) : Out r (tideR r) := by
  unfold tideR
  dsimp only
  exact (tdC_O r 25 0 _ (by decide) (by decide) (tdD_O r _ 0 r (by decide) (by omega) Out.rfl')).up (Or.inl rfl)
theorem tdN_R : ∀ (n : Nat) (d : Int) (r : Int → Int), 0 ≤ tdN n d r ∧ tdN n d r ≤ n
  | 0, _, _ => ⟨by unfold tdN; decide, by unfold tdN; decide⟩
  | n + 1, d, r => by
    unfold tdN
    have a := tdN_R n (d + 1) r
    have b := tdN_R n (d + 1) (loseR r d)
    have c := tdN_R n (d + 1) (up1 r (15 + d) (zbes (r (15 + d)) (r (104 + r (15 + d)))))
    split
    · omega
    split <;> omega
