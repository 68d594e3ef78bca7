/-! an order is obeyed once: the reference -/
def eRn (q : Nat) (k : Int) : Prop := q = 2 ∨ q = 5 ∨ q = 6 ∨ (q = 0 ∧ (k = 8 ∨ k = 34 ∨ k = 38 ∨ k = 50 ∨ k = 51 ∨ k = 53))
def FrO (a b : AH) : Prop := (∀ q k, ¬ eRn q k → gi b q k = gi a q k) ∧ ∀ q k, q ≠ 18 → q ≠ 19 → q ≠ 20 → (q ≠ 0 ∨ k = 54) → gl b q k = gl a q k
theorem FrO.rfl' {a : AH} : FrO a a := ⟨fun _ _ _ => rfl, fun _ _ _ _ _ _ => rfl⟩
theorem FrO.trans {a b c : AH} (x : FrO a b) (y : FrO b c) : FrO a c := ⟨fun q k z => (y.1 q k z).trans (x.1 q k z), fun q k z1 z2 z3 z4 => (y.2 q k z1 z2 z3 z4).trans (x.2 q k z1 z2 z3 z4)⟩
theorem FrO.si {a b : AH} (x : FrO a b) {q : Nat} {i v : Int} (h : eRn q i) : FrO a (si b q i v) := x.trans ⟨fun q' k z => by rw [gi_si, if_neg (fun e => z (by rw [e.1, e.2]; exact h))], fun _ _ _ _ _ _ => rfl⟩
theorem FrO.sl {a b : AH} (x : FrO a b) {i v : Int} : FrO a (sl b 19 i v) := x.trans ⟨fun _ _ _ => rfl, fun q k z1 z2 z3 z4 => by rw [gl_sl, if_neg (fun w => z2 w.1)]⟩
theorem FmS.o {a b : AH} (x : FmS a b) : FrO a b := ⟨fun q k z => by
  by_cases c : q = 0 ∧ k = 20
  · rw [c.1, c.2]
    exact x.2.1
  · exact x.1 q k (by unfold eRn at z; omega), fun q k _ _ z3 z4 => x.2.2 q k z3 (by omega)⟩
/-- what is changed when nothing is done -/
def FrQ (a b : AH) : Prop := (∀ q k, ¬ (q = 0 ∧ (k = 34 ∨ k = 38 ∨ k = 53)) → gi b q k = gi a q k) ∧ ∀ q k, q ≠ 18 → q ≠ 19 → q ≠ 20 → (q ≠ 0 ∨ k = 54) → gl b q k = gl a q k
theorem FrQ.trans {a b c : AH} (x : FrQ a b) (y : FrQ b c) : FrQ a c := ⟨fun q k z => (y.1 q k z).trans (x.1 q k z), fun q k z1 z2 z3 z4 => (y.2 q k z1 z2 z3 z4).trans (x.2 q k z1 z2 z3 z4)⟩
theorem FrQ.o {a b : AH} (x : FrQ a b) : FrO a b := ⟨fun q k z => x.1 q k (by unfold eRn at z; omega), x.2⟩
theorem FmS.q {a b : AH} (x : FmS a b) : FrQ a b := ⟨fun q k z => by
  by_cases c : q = 0 ∧ k = 20
  · rw [c.1, c.2]
    exact x.2.1
  · exact x.1 q k (by omega), fun q k _ _ z3 z4 => x.2.2 q k z3 (by omega)⟩
theorem FmS.rfl' {a : AH} : FmS a a := ⟨fun _ _ _ => rfl, rfl, fun _ _ _ _ => rfl⟩
theorem FmS.r2 {a b : AH} (x : FmS a b) : gi b 2 = gi a 2 := funext fun k => x.1 _ _ (by omega)
theorem FmS.code {a b : AH} (x : FmS a b) : codeH b = codeH a := by
  unfold codeH
  rw [show gi b 11 = gi a 11 from funext (fun k => x.1 _ _ (by omega)), show gi b 12 = gi a 12 from funext (fun k => x.1 _ _ (by omega)), x.1 0 23 (by omega)]
theorem FmS.r29 {a b : AH} (x : FmS a b) : gi b 29 = gi a 29 := funext fun k => x.1 _ _ (by omega)
theorem WdM.fm {a b : AH} {r : Int → Int} {dn lt : Int} (W : WdM a r dn lt) (x : FmS a b) : WdM b r dn lt := by
  obtain ⟨w0, w1, w2, w3, w4⟩ := W
  exact ⟨x.r2.trans w0, (x.2.2 _ _ (by decide) (by omega)).trans w1, (x.2.2 _ _ (by decide) (by omega)).trans w2, (x.2.2 _ _ (by decide) (by omega)).trans w3, (x.2.2 _ _ (by decide) (by omega)).trans w4⟩
theorem LawK.fm {a b : AH} (L : LawK a) (x : FmS a b) : LawK b := by
  unfold LawK
  rw [x.r2, x.2.1]
  exact L
def VlB (F : Int → Int) (o : Option Vl) : Prop := ∀ x, o = some x → ∀ w, x F = some w → -1000000000 ≤ w ∧ w ≤ 1000000000
section RUN
variable {d b : Nat} {Q : Option AV → AH → Prop} {h : AH} {r F : Int → Int} {dn lt c : Int} {rc : Rec}
theorem r_slot {o : Option Vl} {a : Int} (W : WdM h r dn lt) (E : EvO r dn lt F) (V : InvR r) (hd : 0 ≤ dn ∧ dn ≤ 1000) (hl : -1 ≤ lt ∧ lt ≤ 1000000) (A : AllC 1 (codeH h)) (ha : 0 ≤ a ∧ a + 1 < 96) (R : RgM 1 (codeH h) (gi h 29) a o) (vb : VlB F o) (h20 : gi h 0 20 = 0) (h53 : gi h 0 53 = 0)
    (kN : BdV F o → ∀ h' u, FmS h h' → gi h' 0 53 = 1 → Q (some (vI u)) h') (kS : ∀ u, VlO F o u → ∀ h', FmS h h' → gi h' 0 53 = 0 → Q (some (vI u)) h') : WM GM (d + 3) b mX8_sumOf [vR (some 0), vI a] h Q := by
  match o, R with
  | none, R =>
    have R : gi h 29 (a + 1) = gi h 29 a := R
    exact w_X8_sumOf ⟨fun _ => ⟨by omega, by omega, by omega, fun _ => kS (-1) rfl h FmS.rfl' h53, fun z => absurd R.symm z⟩, fun z => absurd h53 z⟩
  | some x, R => exact c_sumO W E V hd hl A ha R (vb x rfl) h20 h53 (fun e h' u f g => kN e h' u f g) (fun w e h' f g => kS w e h' f g)
theorem NowM.ex {kd x y : Int} {P : Option AV → AH → Prop} (N : NowM kd x y h P) : NowM kd x y h (fun r h1 => ∃ u1, r = some (vI u1) ∧ P (some (vI u1)) h1) := ⟨fun z h' T => ⟨_, rfl, N.1 z h' T⟩, fun z h' D => ⟨_, rfl, N.2 z h' D⟩⟩
theorem c_actM {kd x y : Int} {P : Option AV → AH → Prop} (hk : kd = 0 ∨ kd = 1 ∨ kd = 2 ∨ kd = 3 ∨ kd = 4) (L : LawK h) (hu : 0 ≤ gi h 0 8 ∧ gi h 0 8 ≤ 16) (N : NowM kd x y h P) : WM GM (d + 8) b mX8_act [vR (some 0), vI kd, vI x, vI y] h P := by
  refine w_X8_act ⟨fun z => ?_, fun z0 => ⟨fun z => ?_, fun z1 => ⟨fun z => ?_, fun z2 => ⟨fun z => ?_, fun z3 => ?_⟩⟩⟩⟩
  · subst z
    exact c_X8_launchNow L hu N.ex
  · subst z
    exact c_X8_sailNow L hu N.ex
  · subst z
    exact c_X8_fishNow L hu N.ex
  · subst z
    exact c_X8_hangNow L hu N.ex
  · have : kd = 4 := by omega
    subst this
    exact c_X8_tideNow L hu N.ex
/-- what the reference needs to run clause c -/
def RnM (h : AH) (r F : Int → Int) (dn lt c : Int) (rc : Rec) : Prop := gi h 2 = r ∧ LawK h ∧ (0 ≤ gi h 0 8 ∧ gi h 0 8 ≤ 16) ∧ AllC 1 (codeH h) ∧ ClO (codeH h) (gi h 29) c rc ∧ (0 ≤ c ∧ c < 12) ∧ gi h 0 50 = dn ∧ gi h 0 51 = lt ∧ (0 ≤ dn ∧ dn ≤ 1000) ∧ (-1 ≤ lt ∧ lt ≤ 1000000) ∧ EvO r dn lt F ∧ VlB F rc.2.1 ∧ VlB F rc.2.2.1 ∧ VlB F rc.2.2.2.2
theorem run_start (R : RnM h r F dn lt c rc) (kS : SkT F rc.2.2.2.2 → ∀ h', FrQ h h' → Q (some (vI 0)) h') (kG : GoT F rc.2.2.2.2 ∨ SkT F rc.2.2.2.2) (K : GoT F rc.2.2.2.2 → ∀ h', FrQ h h' → WdM h' r dn lt → gi h' 0 53 = 0 → LawK h' → codeH h' = codeH h → gi h' 29 = gi h 29 → Lp_X8_run_92 d b Q (8 * c) h') : WM GM (d + 9) b mX8_run [vR (some 0), vI (8 * c)] h Q := by
  obtain ⟨er, L, hu, A, B, hc, e50, e51, hd, hl, E, vb1, vb2, vb3⟩ := R
  have V := L.2.1
  have IR : InvR r := by rw [← er]; exact V
  refine w_X8_run (fun h1 z1 h2 z2 h3 z3 => ?_)
  have e3 : gi h3 2 = gi h 2 := by rw [z3, z2, z1]; rfl
  rw [e3]
  refine ⟨V, fun h4 z4 h5 z5 => ⟨by omega, by omega, by omega, by omega, ?_⟩⟩
  have g5 : ∀ q k, ¬ (q = 0 ∧ k = 53) → gi h5 q k = gi h q k := fun q k z => by
    rw [z5, gi_ne (by omega), z4, z3, z2, z1]
    rfl
  have FO : FrQ h h5 := ⟨fun q k z => g5 q k (by omega), fun q k _ z2' _ _ => by
    rw [z5, gl_xi, z4, gl_sl, if_neg (fun w => z2' w.1), z3, gl_sl, if_neg (fun w => z2' w.1), z2, gl_sl, if_neg (fun w => z2' w.1), z1, gl_sl, if_neg (fun w => z2' w.1)]⟩
  have r5 : gi h5 2 = r := (funext fun k => g5 2 k (by omega)).trans er
  have W5 : WdM h5 r dn lt := by
    refine ⟨r5, ?_, ?_, ?_, ?_⟩
    · rw [z5, gl_xi, z4, gl_nk (by decide), z3, gl_nk (by decide), z2, gl_nk (by decide), z1, gl_eq, er]
    · rw [z5, gl_xi, z4, gl_nk (by decide), z3, gl_nk (by decide), z2, gl_eq, e50]
    · rw [z5, gl_xi, z4, gl_nk (by decide), z3, gl_eq, e51]
    · rw [z5, gl_xi, z4, gl_eq, er]
      rfl
  have h53 : gi h5 0 53 = 0 := by rw [z5, gi_eq]
  have L5 : LawK h5 := by
    unfold LawK
    rw [r5, ← er, g5 0 20 (by omega)]
    exact L
  have c5 : codeH h5 = codeH h := by
    unfold codeH
    rw [show gi h5 11 = gi h 11 from funext (fun k => g5 _ _ (by omega)), show gi h5 12 = gi h 12 from funext (fun k => g5 _ _ (by omega)), g5 0 23 (by omega)]
  have f5 : gi h5 29 = gi h 29 := funext fun k => g5 _ _ (by omega)
  have R3 := B.2.2.2.2.2.2
  match ho : rc.2.2.2.2 with
  | none =>
    rw [ho] at R3 K
    have R3 : gi h 29 (8 * c + 5 + 1) = gi h 29 (8 * c + 5) := R3
    rw [show 8 * c + 5 + 1 = 8 * c + 6 by omega] at R3
    exact ⟨fun _ => K True.intro h5 FO W5 h53 L5 c5 f5, fun z => by omega⟩
  | some x =>
    rw [ho] at R3 K kS kG vb3
    have R4 := R3.2.2.2.2.1
    rw [show 8 * c + 5 + 1 = 8 * c + 6 by omega] at R4
    refine ⟨fun z => by omega, fun _ => ⟨by omega, ?_⟩⟩
    refine c_sumO W5 E IR hd hl (by rw [c5]; exact A) (by omega) (by rw [c5, f5]; exact R3) (vb3 x rfl) L5.1 h53 (fun xn h6 u F6 f53 => ⟨u, rfl, fun z => by omega, fun _ => kS (Or.inl xn) h6 (FO.trans F6.q)⟩) (fun w xw h6 F6 f53 => ⟨w, rfl, fun _ => ⟨fun z => ?_, fun z => ?_⟩, fun z => absurd f53 z⟩)
    · subst z
      exact kS (Or.inr xw) h6 (FO.trans F6.q)
    · have G : x F = some 1 := by
        rcases kG with y | y | y
        · exact y
        · rw [xw] at y
          cases y
        · rw [xw] at y
          cases y
          exact absurd rfl z
      exact K G h6 (FO.trans F6.q) (W5.fm F6) f53 (L5.fm F6) (F6.code.trans c5) (F6.r29.trans f5)
/-- clause c once -/
theorem c_run (R : RnM h r F dn lt c rc) (kG : GoT F rc.2.2.2.2 ∨ SkT F rc.2.2.2.2) (kS : SkT F rc.2.2.2.2 → ∀ h', FrQ h h' → Q (some (vI 0)) h')
    (kB : GoT F rc.2.2.2.2 → NoV r F rc → ∀ h', FrQ h h' → Q (some (vI (-3))) h')
    (kA : GoT F rc.2.2.2.2 → ∀ x y, VlO F rc.2.1 x → VlO F rc.2.2.1 y → refR r rc.1 x y = 0 → ∀ h', gi h' 2 = actR r rc.1 x y → RemU rc.1 h h' → FrO h h' → gi h' 0 50 = dn + 1 → gi h' 0 51 = (if rc.1 = 2 then actN r rc.1 x y else lt) → Q (some (vI 0)) h') : WM GM (d + 9) b mX8_run [vR (some 0), vI (8 * c)] h Q := by
  refine run_start R kS kG (fun G h1 F1 W1 h53 L1 c1 f1 => ?_)
  obtain ⟨er, L, hu, A, B, hc, e50, e51, hd, hl, E, vb1, vb2, vb3⟩ := R
  have V := L.2.1
  have IR : InvR r := by rw [← er]; exact V
  have hk : rc.1 = 0 ∨ rc.1 = 1 ∨ rc.1 = 2 ∨ rc.1 = 3 ∨ rc.1 = 4 := by have := B.2.1; omega
  refine l_X8_run_92 ⟨by omega, r_slot (F := F) W1 E IR hd hl (by rw [c1]; exact A) (by omega) (by rw [c1, f1]; exact B.2.2.1) vb1 L1.1 h53 (fun e1 h2 u F2 f53 => ⟨u, rfl, by omega, w_X8_sumOf ⟨fun z => by omega, fun _ => ⟨-1, rfl, fun z => by omega, fun _ => kB G (Or.inl e1) h2 (F1.trans F2.q)⟩⟩⟩) (fun x hx h2 F2 f53 => ⟨x, rfl, by omega, ?_⟩)⟩
  have L2 := L1.fm F2
  refine r_slot (F := F) (W1.fm F2) E IR hd hl (by rw [F2.code, c1]; exact A) (by omega) (by rw [F2.code, c1, F2.r29, f1]; exact B.2.2.2.1) vb2 L2.1 f53 (fun e2 h3 w F3 g53 => ⟨w, rfl, fun z => by omega, fun _ => kB G (Or.inr (Or.inl e2)) h3 ((F1.trans F2.q).trans F3.q)⟩) (fun y hy h3 F3 g53 => ⟨y, rfl, fun _ => ?_, fun z => absurd g53 z⟩)
  have L3 := L2.fm F3
  have FQ := (F1.trans F2.q).trans F3.q
  have e29 : gi h3 29 = gi h 29 := F3.r29.trans (F2.r29.trans f1)
  have r3 : gi h3 2 = r := ((W1.fm F2).fm F3).1
  refine l_X8_run_118 ⟨by omega, ?_⟩
  rw [e29, B.1]
  refine c_actM hk L3 (by rw [FQ.1 _ _ (by omega)]; exact hu) ⟨fun z h4 T => ?_, fun z h4 D => ?_⟩
  · rw [r3] at z ⊢
    have vs := refR_vals r rc.1 x y
    refine ⟨_, rfl, fun w => by omega, fun _ => kB G (Or.inr (Or.inr ⟨x, y, hx, hy, z⟩)) h4 (FQ.trans ⟨fun q k w => T.1 q k (by omega), fun q k w1 w2 w3 w4 => T.2 q k w1 w3 w4⟩)⟩
  · obtain ⟨d1, d2, d3⟩ := D
    rw [r3] at z d1 ⊢
    have v0 := actN_0 IR hk z
    have o : ∀ q k, ¬ eD q k → ¬ (q = 0 ∧ k = 53) → gi h4 q k = gi h q k := fun q k w w2 => (d3.1 q k w).trans (FQ.1 q k (by unfold eD at w; omega))
    have g50 : gi h4 0 50 = dn := (o _ _ (by unfold eD; omega) (by omega)).trans e50
    have g51 : gi h4 0 51 = lt := (o _ _ (by unfold eD; omega) (by omega)).trans e51
    have g29 : gi h4 29 (8 * c) = rc.1 := (o _ _ (by unfold eD; omega) (by omega)).trans B.1
    have F4 : FrO h h4 := FQ.o.trans ⟨fun q k w => d3.1 q k (by unfold eRn at w; unfold eD; omega), fun q k w1 w2 w3 w4 => d3.2 q k w1 w3 w4⟩
    have U : RemU rc.1 h h4 := d2.pre (FQ.1 _ _ (by omega)) (fun k => FQ.1 _ _ (by omega)) (fun k => FQ.1 _ _ (by omega)) (fun k => FQ.1 _ _ (by omega))
    have fin : ∀ v, v = (if rc.1 = 2 then actN r rc.1 x y else lt) → Q (some (vI 0)) (si (si h4 0 51 v) 0 50 (dn + 1)) := fun v hv => by
      refine kA G x y hx hy z _ ?_ (U.post ?_ (fun k => ?_) (fun k => ?_)) ((F4.si (by unfold eRn; omega)).si (by unfold eRn; omega)) gi_eq ?_
      · rw [giF_no (by decide), giF_no (by decide)]
        exact d1
      · rw [gi_nk (by decide), gi_nk (by decide)]
      · rw [gi_no (by decide), gi_no (by decide)]
      · rw [gi_no (by decide), gi_no (by decide)]
      · rw [gi_nk (by decide), gi_eq]
        exact hv
    refine ⟨_, rfl, fun _ => ⟨by omega, ?_⟩, fun w => absurd v0 w⟩
    rw [g29, g50, g51]
    refine ⟨fun w h5 z5 => ⟨by omega, fun h6 z6 => ?_⟩, fun w h5 z5 => ⟨by omega, fun h6 z6 => ?_⟩⟩
    · rw [z6, z5]
      exact fin _ (by rw [if_pos w])
    · rw [z6, z5]
      exact fin _ (by rw [if_neg w])
end RUN
