/-! clauses of orders in the reference -/
def scq (c : Int) : List Int → Int → Int → Int
  | [], _, v => v
  | w :: r, k, v => scq c r (k + 1) (if c = w then k else v)
def aC : List Int := [277, 278, 265, 279, 280]
def oVc (c : Int) : Int := oVerb (c - 258)
theorem scq_a (c : Int) : scq c aC 0 (-1) = oVc c := by
  unfold oVc oVerb aC
  simp only [scq]
  (repeat' split) <;> omega
theorem oVc_R (c : Int) : oVc c = -1 ∨ (0 ≤ oVc c ∧ oVc c ≤ 4 ∧ c ≠ -1 ∧ c ≠ 284) := by
  unfold oVc oVerb
  (repeat' split) <;> omega
def ClO (C : Cd) (f : Int → Int) (n : Int) (r : Rec) : Prop := f (8 * n) = r.1 ∧ (0 ≤ r.1 ∧ r.1 ≤ 4) ∧ RgM 1 C f (8 * n + 1) r.2.1 ∧ RgM 1 C f (8 * n + 3) r.2.2.1 ∧ f (8 * n + 7) = r.2.2.2.1 ∧ (1 ≤ r.2.2.2.1 ∧ r.2.2.2.1 ≤ 20) ∧ RgM 1 C f (8 * n + 5) r.2.2.2.2
theorem ClO.ext {C D : Cd} {f g : Int → Int} {n : Int} {r : Rec} (H : ClO C f n r) (E : Ext C D) (h4 : D.2.2 < 400) (e : ∀ k, 0 ≤ k → k < 8 → g (8 * n + k) = f (8 * n + k)) : ClO D g n r := by
  have e0 := e 0 (by decide) (by decide)
  rw [Int.add_zero] at e0
  refine ⟨e0.trans H.1, H.2.1, H.2.2.1.ext E h4 (e 1 (by decide) (by decide)) ?_, H.2.2.2.1.ext E h4 (e 3 (by decide) (by decide)) ?_, (e 7 (by decide) (by decide)).trans H.2.2.2.2.1, H.2.2.2.2.2.1, H.2.2.2.2.2.2.ext E h4 (e 5 (by decide) (by decide)) ?_⟩
  · rw [show 8 * n + 1 + 1 = 8 * n + 2 by omega]
    exact e 2 (by decide) (by decide)
  · rw [show 8 * n + 3 + 1 = 8 * n + 4 by omega]
    exact e 4 (by decide) (by decide)
  · rw [show 8 * n + 5 + 1 = 8 * n + 6 by omega]
    exact e 6 (by decide) (by decide)
section ORD
variable {d b : Nat} {Q : Option AV → AH → Prop} {X : Txt} {h g : AH} {i p i' p' i1 p1 j n v : Int} {x : Vl} {o1 o2 : Option Vl}
theorem lp_headO {c : Int} : ∀ (ws : List Int) (k : Nat) (v : Int), k + ws.length = 5 → -1 ≤ v → v ≤ 11 → (∀ j : Nat, j < ws.length → ((gi h 0 16 = 1 ∧ gl h 0 17 = gl h 28 ((k + j : Nat) : Int)) ↔ c = ws.getD j 0)) → Lp_X8_readOrder_34 d b Q (scq c ws k v) h → Lp_X8_readOrder_4 d b Q v k h
  | [], k, v, e, _, _, _, K => l_X8_readOrder_4 ⟨fun _ => K, fun z => by rw [List.length_nil] at e; omega⟩
  | w :: r, k, v, e, v0, v1, H, K => by
    rw [List.length_cons] at e
    have H0 := H 0 (by rw [List.length_cons]; omega)
    rw [List.getD_cons_zero, Nat.add_zero] at H0
    have ih := fun v q0 q1 q => lp_headO r (k + 1) v (by omega) q0 q1 (fun j hj => by
      have := H (j + 1) (by rw [List.length_cons]; omega)
      rw [List.getD_cons_succ] at this
      rwa [show k + 1 + j = k + (j + 1) by omega]) q
    have ec : ((k + 1 : Nat) : Int) = (k : Int) + 1 := by omega
    rw [ec] at ih
    unfold scq at K
    refine l_X8_readOrder_4 ⟨fun z => by omega, fun _ => ⟨by omega, fun z => ⟨by omega, ih _ (by omega) (by omega) ?_⟩, fun z => ⟨by omega, ih _ v0 v1 ?_⟩⟩⟩
    · rw [if_pos (H0.mp z)] at K
      exact K
    · rw [if_neg (fun y => z (H0.mpr y))] at K
      exact K
theorem tab_a : ∀ k : Nat, k < 5 → ∃ j : Nat, j < 30 ∧ aTab.getD k 0 = hsL.getD j 0 ∧ aC.getD k 0 = 258 + (j : Int) := by decide
theorem ro_head (M : MC X h i p) (K : Lp_X8_readOrder_34 d b Q (oVc (X.c i)) h) : WM GM (d + 8) b mX8_readOrder [vR (some 0)] h Q := by
  refine w_X8_readOrder (lp_headO (c := X.c i) aC 0 (-1) rfl (by decide) (by decide) (fun j hj => ?_) ?_)
  · obtain ⟨k, k1, k2, k3⟩ := tab_a j hj
    rw [Nat.zero_add, M.2.2.2.2.2.2.2.2.2.2.2 j hj, k2, k3]
    exact M.2.1.2.2.2.wd k k1
  · have := scq_a (X.c i)
    rw [show ((0 : Nat) : Int) = 0 from rfl, this]
    exact K
/-- a clause is under way -/
def StO (X : Txt) (h h' : AH) (n i p v : Int) (o1 o2 : Option Vl) : Prop := MC X h' i p ∧ gi h' 0 21 = n + 1 ∧ FrR h h' ∧ Ext (codeH h) (codeH h') ∧ gi h' 29 (8 * n) = v ∧ RgM 1 (codeH h') (gi h' 29) (8 * n + 1) o1 ∧ RgM 1 (codeH h') (gi h' 29) (8 * n + 3) o2 ∧ ∀ k, ¬ (8 * n ≤ k ∧ k < 8 * n + 8) → gi h' 29 k = gi h 29 k
theorem lp85 (hn : 0 ≤ n ∧ n < 12) (K : ∀ h', StO X h h' n i p v none none → (v = 4 → Lp_X8_readOrder_125 d b Q v (8 * n) h') ∧ (¬ v = 4 → WM GM (d + 7) 0 mX8_readSum [vR (some 0), vI (8 * n + 1)] h' (fun r h2 => r = none ∧ Lp_X8_readOrder_125 d b Q v (8 * n) h2))) :
    ∀ (f : Nat) (k : Int) (h' : AH), k + f = 8 → 0 ≤ k → MC X h' i p → gi h' 0 21 = n + 1 → FrR h h' → codeH h' = codeH h → (∀ z, ¬ (8 * n ≤ z ∧ z < 8 * n + 8) → gi h' 29 z = gi h 29 z) → (∀ z, 8 * n ≤ z → z < 8 * n + k → gi h' 29 z = 0) → Lp_X8_readOrder_85 d b Q v (8 * n) k h'
  | 0, k, h', e, k0, M, e21, F, C, e29, z0 => by
    have hs : StO X h (si h' 29 (8 * n) v) n i p v none none := by
      refine ⟨M.wr (Or.inr (Or.inl rfl)), (gi_no (by decide)).trans e21, F.si (Or.inr (Or.inl rfl)), ?_, gi_eq, ?_, ?_, fun k hk => (gi_nk (by omega)).trans (e29 k hk)⟩
      · rw [code_si10 (by omega), C]
        exact Ext.rfl'
      · show gi _ 29 (8 * n + 1 + 1) = gi _ 29 (8 * n + 1)
        rw [gi_nk (by omega), gi_nk (by omega), z0 _ (by omega) (by omega), z0 _ (by omega) (by omega)]
      · show gi _ 29 (8 * n + 3 + 1) = gi _ 29 (8 * n + 3)
        rw [gi_nk (by omega), gi_nk (by omega), z0 _ (by omega) (by omega), z0 _ (by omega) (by omega)]
    obtain ⟨K1, K2⟩ := K _ hs
    refine l_X8_readOrder_85 ⟨fun _ => ⟨by omega, fun h1 e1 => ?_⟩, fun z => by omega⟩
    subst e1
    exact ⟨K1, fun z => ⟨by omega, K2 z⟩⟩
  | f + 1, k, h', e, k0, M, e21, F, C, e29, z0 => by
    refine l_X8_readOrder_85 ⟨fun z => by omega, fun _ => ⟨by omega, by omega, fun h1 e1 => ⟨by omega, ?_⟩⟩⟩
    subst e1
    refine lp85 hn K f (k + 1) _ (by omega) (by omega) (M.wr (Or.inr (Or.inl rfl))) ((gi_no (by decide)).trans e21) (F.si (Or.inr (Or.inl rfl))) ((code_si10 (by omega)).trans C) (fun z hz => (gi_nk (by omega)).trans (e29 z hz)) (fun z y0 y1 => ?_)
    by_cases c : z = 8 * n + k
    · rw [c, gi_eq]
    · rw [gi_nk c]
      exact z0 z y0 (by omega)
theorem ro_start (L : LxOK X) (M : MC X h i p) (e21 : gi h 0 21 = n) (hn : 0 ≤ n ∧ n < 12) (hv : oVc (X.c i) ≠ -1)
    (K : ∀ h', StO X h h' n (i + 1) p (oVc (X.c i)) none none → (oVc (X.c i) = 4 → Lp_X8_readOrder_125 d b Q (oVc (X.c i)) (8 * n) h') ∧ (¬ oVc (X.c i) = 4 → WM GM (d + 7) 0 mX8_readSum [vR (some 0), vI (8 * n + 1)] h' (fun r h2 => r = none ∧ Lp_X8_readOrder_125 d b Q (oVc (X.c i)) (8 * n) h2))) : WM GM (d + 8) b mX8_readOrder [vR (some 0)] h Q := by
  have R := oVc_R (X.c i)
  refine ro_head M (l_X8_readOrder_34 ⟨fun z => absurd z hv, fun _ => ⟨fun z => by omega, fun _ => M.must L (by omega) (by decide) (fun h1 F1 M1 => ⟨rfl, ?_⟩)⟩⟩)
  have f21 : gi h1 0 21 = n := (F1.1 _ _ (by omega)).trans e21
  refine l_X8_readOrder_57 ⟨fun _ => ⟨by omega, by omega, fun h2 e2 => ?_⟩, fun z => absurd M1.1 z⟩
  rw [f21] at *
  subst e2
  exact lp85 hn K 8 0 _ rfl (by decide) (M1.wr (Or.inr (Or.inr ⟨rfl, rfl⟩))) gi_eq (F1.p.r.si (Or.inr (Or.inr ⟨rfl, rfl⟩))) ((code_si10 (by decide)).trans F1.code) (fun k hk => (gi_no (by decide)).trans (F1.1 _ _ (by omega))) (fun z y0 y1 => by omega)
/-- once there is a fault -/
theorem o257b (hn : 0 ≤ n ∧ n < 12) (e1 : gi h 0 19 = 1) (e2 : gi h 0 18 = X.pl j) (F : FrR g h) (K : BadR X g Q j) : Lp_X8_readOrder_257 d b Q (8 * n) h := by
  refine l_X8_readOrder_257 ⟨by omega, by omega, fun h1 z1 => ?_⟩
  subst z1
  exact K _ (F.si (Or.inr (Or.inl rfl))) ((gi_no (by decide)).trans e1) ((gi_no (by decide)).trans e2)
theorem o219b (hn : 0 ≤ n ∧ n < 12) (e1 : gi h 0 19 = 1) (e2 : gi h 0 18 = X.pl j) (F : FrR g h) (K : BadR X g Q j) : Lp_X8_readOrder_219 d b Q (8 * n) h := by
  refine l_X8_readOrder_219 ⟨by omega, by omega, fun h1 z1 => ⟨fun z => by omega, fun _ => ?_⟩⟩
  subst z1
  exact o257b hn ((gi_no (by decide)).trans e1) ((gi_no (by decide)).trans e2) (F.si (Or.inr (Or.inl rfl))) K
theorem o171b (hn : 0 ≤ n ∧ n < 12) (e1 : gi h 0 19 = 1) (e2 : gi h 0 18 = X.pl j) (F : FrR g h) (K : BadR X g Q j) : Lp_X8_readOrder_171 d b Q (8 * n) h := by
  refine l_X8_readOrder_171 ⟨by omega, by omega, fun h1 z1 => ⟨fun z => by omega, fun _ => ?_⟩⟩
  subst z1
  exact o219b hn ((gi_no (by decide)).trans e1) ((gi_no (by decide)).trans e2) (F.si (Or.inr (Or.inl rfl))) K
theorem readSumB {a : Int} (ha : 0 ≤ a ∧ a + 1 < 96) (e1 : gi h 0 19 = 1) (e2 : gi h 0 18 = X.pl j) (F : FrR g h) (K : BadR X g Q j) : WM GM (d + 7) b mX8_readSum [vR (some 0), vI a] h Q := by
  refine w_X8_readSum ⟨by omega, fun h1 z1 => ⟨fun z => ?_, fun _ => l_X8_readSum_22 ⟨by omega, by omega, fun h2 z2 => ?_⟩⟩⟩
  · omega
  · subst z2 z1
    exact K _ ((F.si (Or.inr (Or.inl rfl))).si (Or.inr (Or.inl rfl))) ((gi_no (by decide)).trans ((gi_no (by decide)).trans e1)) ((gi_no (by decide)).trans ((gi_no (by decide)).trans e2))
theorem o164b (hn : 0 ≤ n ∧ n < 12) (e1 : gi h 0 19 = 1) (e2 : gi h 0 18 = X.pl j) (F : FrR g h) (K : BadR X g Q j) : Lp_X8_readOrder_164 d b Q (8 * n) h :=
  l_X8_readOrder_164 ⟨by omega, readSumB (g := h) (j := j) (by omega) e1 e2 FrR.rfl' (fun h' F' f1 f2 => ⟨rfl, o171b hn f1 f2 (F.trans F') K⟩)⟩
theorem o125b (hn : 0 ≤ n ∧ n < 12) (e1 : gi h 0 19 = 1) (e2 : gi h 0 18 = X.pl j) (F : FrR g h) (K : BadR X g Q j) : Lp_X8_readOrder_125 d b Q v (8 * n) h := by
  have B := o164b (d := d) (b := b) hn e1 e2 F K
  exact l_X8_readOrder_125 ⟨fun _ => ⟨fun z => by omega, fun _ => B⟩, fun _ => ⟨fun _ => ⟨fun z => by omega, fun _ => B⟩, fun _ => o171b hn e1 e2 F K⟩⟩
/-- a sum is read -/
theorem readSumS {a : Int} (L : LxOK X) (hm : X.mode = 1) (ha : 0 ≤ a ∧ a + 1 < 96) (M : MC X h i p) (hi : 1 ≤ i) (H : ToS X 5 5 0 i p i1 p1 x) (hb : bop (X.c i1) = -1)
    (K : ∀ h', MC X h' i1 p1 → FrR h h' → Ext (codeH h) (codeH h') → gi h' 0 21 = gi h 0 21 → RgM 1 (codeH h') (gi h' 29) a (some x) → (∀ k, k ≠ a → k ≠ a + 1 → gi h' 29 k = gi h 29 k) → Q none h') : WM GM (d + 7) b mX8_readSum [vR (some 0), vI a] h Q := by
  refine w_X8_readSum ⟨by omega, fun h1 z1 => ⟨fun _ => ?_, fun z => absurd M.1 z⟩⟩
  subst z1
  refine rdSum L (M.wr (Or.inr (Or.inl rfl))) hi H hb (fun h2 M2 F2 E2 V2 => ⟨rfl, l_X8_readSum_22 ⟨by omega, by omega, fun h3 z3 => ?_⟩⟩)
  subst z3
  have c1 : codeH (si h 29 a (gi h 0 23)) = codeH h := code_si10 (by omega)
  have c3 : codeH (si h2 29 (a + 1) (gi h2 0 23)) = codeH h2 := code_si10 (by omega)
  have k1 : gi (si h 29 a (gi h 0 23)) 0 23 = gi h 0 23 := gi_no (by decide)
  have g29 : ∀ k, gi h2 29 k = gi (si h 29 a (gi h 0 23)) 29 k := fun k => F2.1 _ _ (by omega)
  have l1 := L.m1
  have t2 := M2.2.1.1
  have n2 := M2.2.2.2.2.1
  rw [c1] at E2
  rw [k1, hm] at V2
  refine K _ (M2.wr (Or.inr (Or.inl rfl))) (((FrR.rfl'.si (Or.inr (Or.inl rfl))).trans F2.r).si (Or.inr (Or.inl rfl))) (c3 ▸ E2) ((gi_no (by decide)).trans ((F2.1 _ _ (by omega)).trans (gi_no (by decide)))) ?_ (fun k k0 k1 => ?_)
  · rw [c3]
    show 0 ≤ gi _ 29 a ∧ gi _ 29 (a + 1) ≤ _ ∧ _ ∧ MM _ _ _ _ (gi _ 29 a) (gi _ 29 (a + 1)) x
    rw [gi_eq, gi_nk (by omega), g29, gi_eq]
    exact ⟨V2.1, Int.le_refl _, by show gi h2 0 23 < 400; omega, V2⟩
  · rw [gi_nk k1, g29, gi_nk k0]
theorem readSumF {a : Int} (L : LxOK X) (ha : 0 ≤ a ∧ a + 1 < 96) (M : MC X h i p) (hi : 1 ≤ i) (H : ToF X 5 0 i p j) (K : BadR X h Q j) : WM GM (d + 7) b mX8_readSum [vR (some 0), vI a] h Q := by
  refine w_X8_readSum ⟨by omega, fun h1 z1 => ⟨fun _ => ?_, fun z => absurd M.1 z⟩⟩
  subst z1
  refine rdSumF L (M.wr (Or.inr (Or.inl rfl))) hi H (fun h2 F2 e1 e2 => ⟨rfl, l_X8_readSum_22 ⟨by omega, by omega, fun h3 z3 => ?_⟩⟩)
  subst z3
  exact K _ (((FrR.rfl'.si (Or.inr (Or.inl rfl))).trans F2.r).si (Or.inr (Or.inl rfl))) ((gi_no (by decide)).trans e1) ((gi_no (by decide)).trans e2)
def Or1 (X : Txt) (i p n i1 p1 v : Int) (o1 : Option Vl) : Prop := ∀ (d b : Nat) (Q : Option AV → AH → Prop) (h : AH), MC X h i p → gi h 0 21 = n → (∀ h', StO X h h' n i1 p1 v o1 none → Lp_X8_readOrder_125 d b Q v (8 * n) h') → WM GM (d + 8) b mX8_readOrder [vR (some 0)] h Q
def Or2 (X : Txt) (i p n i1 p1 v : Int) (o1 o2 : Option Vl) : Prop := ∀ (d b : Nat) (Q : Option AV → AH → Prop) (h : AH), MC X h i p → gi h 0 21 = n → (∀ h', StO X h h' n i1 p1 v o1 o2 → Lp_X8_readOrder_171 d b Q (8 * n) h') → WM GM (d + 8) b mX8_readOrder [vR (some 0)] h Q
def Or3 (X : Txt) (i p n i1 p1 v : Int) (o1 o2 : Option Vl) (t : Int) : Prop := ∀ (d b : Nat) (Q : Option AV → AH → Prop) (h : AH), MC X h i p → gi h 0 21 = n → (∀ h', StO X h h' n i1 p1 v o1 o2 → gi h' 29 (8 * n + 7) = t → Lp_X8_readOrder_219 d b Q (8 * n) h') → WM GM (d + 8) b mX8_readOrder [vR (some 0)] h Q
def ToO (X : Txt) (i p n i' p' : Int) (r : Rec) : Prop := ∀ (d b : Nat) (Q : Option AV → AH → Prop) (h : AH), MC X h i p → gi h 0 21 = n →
  (∀ h', MC X h' i' p' → gi h' 0 21 = n + 1 → FrR h h' → Ext (codeH h) (codeH h') → ClO (codeH h') (gi h' 29) n r → (∀ k, ¬ (8 * n ≤ k ∧ k < 8 * n + 8) → gi h' 29 k = gi h 29 k) → Q none h') → WM GM (d + 8) b mX8_readOrder [vR (some 0)] h Q
def FaO (X : Txt) (i p n j : Int) : Prop := ∀ (d b : Nat) (Q : Option AV → AH → Prop) (h : AH), MC X h i p → gi h 0 21 = n → BadR X h Q j → WM GM (d + 8) b mX8_readOrder [vR (some 0)] h Q
theorem FaO.at0 (hv : oVc (X.c i) = -1 ∨ 12 ≤ n) : FaO X i p n i := by
  intro d b Q h M e21 K
  have B : ∀ y, WM GM (d + 7) 0 mX8_must [vR (some 0), vI 0] h (fun r h1 => r = none ∧ Lp_X8_readOrder_57 d b Q y h1) := fun y => M.must0 (fun h' F e1 e2 => ⟨rfl, l_X8_readOrder_57 ⟨fun z => by omega, fun _ => K h' F.r e1 e2⟩⟩)
  refine ro_head M (l_X8_readOrder_34 ⟨fun z => B _, fun z => ⟨fun _ => B _, fun z2 => ?_⟩⟩)
  exfalso
  omega
theorem Or1.tide (L : LxOK X) (hn : 0 ≤ n ∧ n < 12) (hv : oVc (X.c i) = 4) : Or1 X i p n (i + 1) p 4 none := by
  intro d b Q h M e21 K
  have := ro_start (d := d) (b := b) (Q := Q) L M e21 hn (by omega) (fun h' S => ⟨fun _ => hv.symm ▸ K h' (hv ▸ S), fun z => absurd hv z⟩)
  exact this
theorem Or1.sum (L : LxOK X) (hm : X.mode = 1) (hn : 0 ≤ n ∧ n < 12) (hi0 : 0 ≤ i) (hv : oVc (X.c i) ≠ -1 ∧ oVc (X.c i) ≠ 4) (H : ToS X 5 5 0 (i + 1) p i1 p1 x) (hb : bop (X.c i1) = -1) : Or1 X i p n i1 p1 (oVc (X.c i)) (some x) := by
  intro d b Q h M e21 K
  refine ro_start L M e21 hn hv.1 (fun h' S => ⟨fun z => absurd z hv.2, fun _ => ?_⟩)
  obtain ⟨s1, s2, s3, s4, s5, s6, s7, s8⟩ := S
  refine readSumS L hm (by omega) s1 (by omega) H hb (fun h2 M2 F2 E2 e2 R2 k2 => ⟨rfl, K h2 ⟨M2, e2.trans s2, s3.trans F2, s4.trans E2, (k2 _ (by omega) (by omega)).trans s5, R2, ?_, fun k hk => (k2 k (by omega) (by omega)).trans (s8 k hk)⟩⟩)
  show gi h2 29 (8 * n + 3 + 1) = gi h2 29 (8 * n + 3)
  rw [k2 _ (by omega) (by omega), k2 _ (by omega) (by omega)]
  exact s7
theorem FaO.sum (L : LxOK X) (hn : 0 ≤ n ∧ n < 12) (hi0 : 0 ≤ i) (hv : oVc (X.c i) ≠ -1 ∧ oVc (X.c i) ≠ 4) (H : ToF X 5 0 (i + 1) p j) : FaO X i p n j := by
  intro d b Q h M e21 K
  refine ro_start L M e21 hn hv.1 (fun h' S => ⟨fun z => absurd z hv.2, fun _ => ?_⟩)
  exact readSumF L (by omega) S.1 (by omega) H (fun h2 F2 e1 e2 => ⟨rfl, o125b hn e1 e2 (S.2.2.1.trans F2) K⟩)
theorem Or2.no (H : Or1 X i p n i1 p1 v o1) (hv : v ≠ 1 ∧ v ≠ 3) : Or2 X i p n i1 p1 v o1 none := fun d b Q h M e21 K => H d b Q h M e21 (fun h' S => l_X8_readOrder_125 ⟨fun z => absurd z hv.1, fun _ => ⟨fun z => absurd z hv.2, fun _ => K h' S⟩⟩)
/-- "by", "in" -/
theorem or_by (L : LxOK X) (M : MC X h i p) (hv : (v = 1 ∧ X.c i = 281) ∨ (v = 3 ∧ X.c i = 282)) (K : ∀ h', FrN h h' → MC X h' (i + 1) p → Lp_X8_readOrder_164 d b Q (8 * n) h') : Lp_X8_readOrder_125 d b Q v (8 * n) h := by
  have t := M.2.1.2.2.2
  rcases hv with ⟨e, c⟩ | ⟨e, c⟩ <;> subst e
  · refine l_X8_readOrder_125 ⟨fun _ => ⟨fun _ => ⟨fun _ => M.must L (by omega) (by rw [b2i_t (show gi h 0 16 = 1 ∧ gl h 0 17 = 89 from (t.wd 23 (by decide)).mpr c)]; decide) (fun h' F M' => ⟨rfl, K h' F M'⟩), fun z => absurd rfl z⟩, fun z => absurd M.1 z⟩, fun z => absurd rfl z⟩
  · refine l_X8_readOrder_125 ⟨fun z => by omega, fun _ => ⟨fun _ => ⟨fun _ => ⟨fun z => by omega, fun _ => M.must L (by omega) (by rw [b2i_t (show gi h 0 16 = 1 ∧ gl h 0 17 = 302 from (t.wd 24 (by decide)).mpr c)]; decide) (fun h' F M' => ⟨rfl, K h' F M'⟩)⟩, fun z => absurd M.1 z⟩, fun z => absurd rfl z⟩⟩
theorem Or2.sum (L : LxOK X) (hm : X.mode = 1) (hn : 0 ≤ n ∧ n < 12) (hi1 : 0 ≤ i1) (H : Or1 X i p n i1 p1 v o1) (hv : (v = 1 ∧ X.c i1 = 281) ∨ (v = 3 ∧ X.c i1 = 282)) (H2 : ToS X 5 5 0 (i1 + 1) p1 i' p' x) (hb : bop (X.c i') = -1) : Or2 X i p n i' p' v o1 (some x) := by
  intro d b Q h M e21 K
  refine H d b Q h M e21 (fun h1 S => ?_)
  obtain ⟨s1, s2, s3, s4, s5, s6, s7, s8⟩ := S
  refine or_by L s1 hv (fun h2 F2 M2 => l_X8_readOrder_164 ⟨by omega, readSumS L hm (by omega) M2 (by omega) H2 hb (fun h3 M3 F3 E3 e3 R3 k3 => ⟨rfl, ?_⟩)⟩)
  have g29 : ∀ k, k ≠ 8 * n + 3 → k ≠ 8 * n + 4 → gi h3 29 k = gi h1 29 k := fun k a1 a2 => (k3 k a1 (by omega)).trans (F2.1 _ _ (by omega))
  have E13 : Ext (codeH h1) (codeH h3) := by
    rw [← F2.code]
    exact E3
  refine K h3 ⟨M3, e3.trans ((F2.1 _ _ (by omega)).trans s2), (s3.trans F2.p.r).trans F3, s4.trans E13, (g29 _ (by omega) (by omega)).trans s5, ?_, R3, fun k hk => (g29 k (by omega) (by omega)).trans (s8 k hk)⟩
  have l1 := L.m1
  have t3 := M3.2.1.1
  have n3 := M3.2.2.2.2.1
  exact s6.ext E13 (by show gi h3 0 23 < 400; omega) (g29 _ (by omega) (by omega)) (g29 _ (by omega) (by omega))
theorem FaO.by0 (hn : 0 ≤ n ∧ n < 12) (H : Or1 X i p n i1 p1 v o1) (hv : (v = 1 ∧ X.c i1 ≠ 281) ∨ (v = 3 ∧ X.c i1 ≠ 282)) : FaO X i p n i1 := by
  intro d b Q h M e21 K
  refine H d b Q h M e21 (fun h1 S => ?_)
  have t := S.1.2.1.2.2.2
  rcases hv with ⟨e, c⟩ | ⟨e, c⟩ <;> subst e
  · refine l_X8_readOrder_125 ⟨fun _ => ⟨fun _ => ⟨fun _ => ?_, fun z => absurd rfl z⟩, fun z => absurd S.1.1 z⟩, fun z => absurd rfl z⟩
    rw [b2i_f (show ¬ (gi h1 0 16 = 1 ∧ gl h1 0 17 = 89) from fun z => c ((t.wd 23 (by decide)).mp z))]
    exact S.1.must0 (fun h' F e1 e2 => ⟨rfl, o164b hn e1 e2 (S.2.2.1.trans F.r) K⟩)
  · refine l_X8_readOrder_125 ⟨fun z => by omega, fun _ => ⟨fun _ => ⟨fun _ => ⟨fun z => by omega, fun _ => ?_⟩, fun z => absurd S.1.1 z⟩, fun z => absurd rfl z⟩⟩
    rw [b2i_f (show ¬ (gi h1 0 16 = 1 ∧ gl h1 0 17 = 302) from fun z => c ((t.wd 24 (by decide)).mp z))]
    exact S.1.must0 (fun h' F e1 e2 => ⟨rfl, o164b hn e1 e2 (S.2.2.1.trans F.r) K⟩)
theorem FaO.by1 (L : LxOK X) (hn : 0 ≤ n ∧ n < 12) (hi1 : 0 ≤ i1) (H : Or1 X i p n i1 p1 v o1) (hv : (v = 1 ∧ X.c i1 = 281) ∨ (v = 3 ∧ X.c i1 = 282)) (H2 : ToF X 5 0 (i1 + 1) p1 j) : FaO X i p n j := by
  intro d b Q h M e21 K
  refine H d b Q h M e21 (fun h1 S => or_by L S.1 hv (fun h2 F2 M2 => l_X8_readOrder_164 ⟨by omega, readSumF L (by omega) M2 (by omega) H2 (fun h3 F3 e1 e2 => ⟨rfl, o171b hn e1 e2 ((S.2.2.1.trans F2.p.r).trans F3) K⟩)⟩))
theorem St7 (S : StO X g h n i p v o1 o2) {t : Int} : StO X g (si h 29 (8 * n + 7) t) n i p v o1 o2 := by
  obtain ⟨s1, s2, s3, s4, s5, s6, s7, s8⟩ := S
  have c : codeH (si h 29 (8 * n + 7) t) = codeH h := code_si10 (by omega)
  have k7 : ∀ k, k ≠ 8 * n + 7 → gi (si h 29 (8 * n + 7) t) 29 k = gi h 29 k := fun k hk => gi_nk hk
  refine ⟨s1.wr (Or.inr (Or.inl rfl)), (gi_no (by decide)).trans s2, s3.si (Or.inr (Or.inl rfl)), c ▸ s4, (k7 _ (by omega)).trans s5, ?_, ?_, fun k hk => (k7 k (by omega)).trans (s8 k hk)⟩
  · rw [c]
    match o1, s6 with
    | none, s6 => exact (k7 _ (by omega)).trans (s6.trans (k7 _ (by omega)).symm)
    | some x, s6 => exact s6.ext Ext.rfl' s6.2.2.1 (k7 _ (by omega)) (k7 _ (by omega))
  · rw [c]
    match o2, s7 with
    | none, s7 => exact (k7 _ (by omega)).trans (s7.trans (k7 _ (by omega)).symm)
    | some x, s7 => exact s7.ext Ext.rfl' s7.2.2.1 (k7 _ (by omega)) (k7 _ (by omega))
theorem Or3.no (hn : 0 ≤ n ∧ n < 12) (H : Or2 X i p n i1 p1 v o1 o2) (hc : X.c i1 ≠ 283) : Or3 X i p n i1 p1 v o1 o2 1 := by
  intro d b Q h M e21 K
  refine H d b Q h M e21 (fun h1 S => l_X8_readOrder_171 ⟨by omega, by omega, fun h2 e2 => ⟨fun _ => ⟨fun z => ?_, fun _ => ?_⟩, fun z => absurd S.1.1 z⟩⟩)
  · subst e2
    exact absurd ((S.1.2.1.2.2.2.wd 25 (by decide)).mp z) hc
  · subst e2
    exact K _ (St7 S) gi_eq
theorem MC.ms' (M : MC X h i p) (hi : 1 ≤ i) (L : LxOK X) : MS X h (si (si h 0 29 0) 0 30 0) i p [] 0 := M.ms L hi
theorem mc_num1 (L : LxOK X) (M : MC X h i p) {lo hi : Int} (hc : X.c i = 256) (hv : lo ≤ X.v i ∧ X.v i ≤ hi) (hb : 0 ≤ lo ∧ hi ≤ 1000) (k : ∀ h', FrN h h' → MC X h' (i + 1) p → Q (some (vI (X.v i))) h') : WM GM (d + 3) b mX8_number [vR (some 0), vL lo, vL hi] h Q := by
  have T := M.2.1.2.2.2
  have s2 := T.2.2.1.mp hc
  have w := T.2.2.2.1 hc
  unfold nuR at w
  have ew : gl h 0 17 = X.v i := by omega
  refine w_X8_number ⟨fun _ => ⟨fun _ => M.must L (by omega) (by decide) (fun h' F t => ⟨rfl, ?_⟩), fun z => by omega⟩, fun z => absurd s2 z⟩
  rw [ew, zl2i_e (by omega)]
  exact k h' F t
theorem mc_num0 (M : MC X h i p) {lo hi : Int} (hc : ¬ (X.c i = 256 ∧ lo ≤ X.v i ∧ X.v i ≤ hi)) (hb : 0 ≤ lo ∧ hi ≤ 1000) (k : ∀ u h', FrP h h' → gi h' 0 19 = 1 → gi h' 0 18 = X.pl i → Q (some (vI u)) h') : WM GM (d + 3) b mX8_number [vR (some 0), vL lo, vL hi] h Q := by
  have T := M.2.1.2.2.2
  refine w_X8_number ⟨fun s2 => ⟨fun z => ?_, fun _ => M.must0 (fun h' F e1 e2 => ⟨rfl, k _ h' F e1 e2⟩)⟩, fun _ => M.must0 (fun h' F e1 e2 => ⟨rfl, k _ h' F e1 e2⟩)⟩
  have c := T.2.2.1.mpr s2
  have w := T.2.2.2.1 c
  unfold nuR at w
  omega
theorem StN {h2 : AH} (L : LxOK X) (S : StO X g h n i p v o1 o2) (F : FrN h h2) (M : MC X h2 i' p) : StO X g h2 n i' p v o1 o2 := by
  obtain ⟨s1, s2, s3, s4, s5, s6, s7, s8⟩ := S
  have g29 : ∀ k, gi h2 29 k = gi h 29 k := fun k => F.1 _ _ (by omega)
  refine ⟨M, (F.1 _ _ (by omega)).trans s2, s3.trans F.p.r, F.code ▸ s4, (g29 _).trans s5, ?_, ?_, fun k hk => (g29 k).trans (s8 k hk)⟩
  · rw [F.code, show gi h2 29 = gi h 29 from funext g29]
    exact s6
  · rw [F.code, show gi h2 29 = gi h 29 from funext g29]
    exact s7
theorem Or3.times (L : LxOK X) (hn : 0 ≤ n ∧ n < 12) (H : Or2 X i p n i1 p1 v o1 o2) (hc : X.c i1 = 283) (hc2 : X.c (i1 + 1) = 256) (hv : 1 ≤ X.v (i1 + 1) ∧ X.v (i1 + 1) ≤ 20) : Or3 X i p n (i1 + 2) p1 v o1 o2 (X.v (i1 + 1)) := by
  intro d b Q h M e21 K
  refine H d b Q h M e21 (fun h1 S => l_X8_readOrder_171 ⟨by omega, by omega, fun h2 e2 => ⟨fun _ => ⟨fun _ => ?_, fun z => ?_⟩, fun z => absurd S.1.1 z⟩⟩)
  · subst e2
    have S2 := St7 S (t := 1)
    refine S2.1.next L (by omega) (fun h3 F3 M3 => ⟨rfl, by omega, mc_num1 L M3 hc2 hv (by decide) (fun h4 F4 M4 => ⟨_, rfl, by omega, fun h5 e5 => ?_⟩)⟩)
    subst e5
    have S4 := StN L (StN L S2 F3 M3) F4 M4
    rw [show i1 + 1 + 1 = i1 + 2 by omega] at S4
    exact K _ (St7 S4) gi_eq
  · subst e2
    exact absurd ((S.1.2.1.2.2.2.wd 25 (by decide)).mpr hc) z
theorem FaO.times (L : LxOK X) (hn : 0 ≤ n ∧ n < 12) (H : Or2 X i p n i1 p1 v o1 o2) (hc : X.c i1 = 283) (hv : ¬ (X.c (i1 + 1) = 256 ∧ 1 ≤ X.v (i1 + 1) ∧ X.v (i1 + 1) ≤ 20)) : FaO X i p n (i1 + 1) := by
  intro d b Q h M e21 K
  refine H d b Q h M e21 (fun h1 S => l_X8_readOrder_171 ⟨by omega, by omega, fun h2 e2 => ⟨fun _ => ⟨fun _ => ?_, fun z => ?_⟩, fun z => absurd S.1.1 z⟩⟩)
  · subst e2
    have S2 := St7 S (t := 1)
    refine S2.1.next L (by omega) (fun h3 F3 M3 => ⟨rfl, by omega, mc_num0 M3 hv (by decide) (fun u h4 F4 e1 e2 => ⟨_, rfl, by omega, fun h5 e5 => ?_⟩)⟩)
    subst e5
    exact o219b hn ((gi_no (by decide)).trans e1) ((gi_no (by decide)).trans e2) (((S2.2.2.1.trans F3.p.r).trans F4.r).si (Or.inr (Or.inl rfl))) K
  · subst e2
    exact absurd ((S.1.2.1.2.2.2.wd 25 (by decide)).mpr hc) z
theorem ToO.no {t : Int} (hn : 0 ≤ n ∧ n < 12) (hv : 0 ≤ v ∧ v ≤ 4) (ht : 1 ≤ t ∧ t ≤ 20) (H : Or3 X i p n i1 p1 v o1 o2 t) (hc : X.c i1 ≠ 284) : ToO X i p n i1 p1 (v, o1, o2, t, none) := by
  intro d b Q h M e21 K
  refine H d b Q h M e21 (fun h1 S e7 => l_X8_readOrder_219 ⟨by omega, by omega, fun h2 e2 => ⟨fun _ => ⟨fun z => ?_, fun _ => ?_⟩, fun z => absurd S.1.1 z⟩⟩)
  · subst e2
    exact absurd ((S.1.2.1.2.2.2.wd 26 (by decide)).mp z) hc
  · refine l_X8_readOrder_257 ⟨by omega, by omega, fun h3 e3 => ?_⟩
    subst e3 e2
    obtain ⟨s1, s2, s3, s4, s5, s6, s7, s8⟩ := S
    have e23 : gi (si h1 29 (8 * n + 5) (gi h1 0 23)) 0 23 = gi h1 0 23 := gi_no (by decide)
    rw [e23]
    have c3 : codeH (si (si h1 29 (8 * n + 5) (gi h1 0 23)) 29 (8 * n + 6) (gi h1 0 23)) = codeH h1 := by rw [code_si10 (by omega), code_si10 (by omega)]
    have k0 : ∀ k, k ≠ 8 * n + 5 → k ≠ 8 * n + 6 → gi (si (si h1 29 (8 * n + 5) (gi h1 0 23)) 29 (8 * n + 6) (gi h1 0 23)) 29 k = gi h1 29 k := fun k a1 a2 => (gi_nk a2).trans (gi_nk a1)
    refine K _ ((s1.wr (Or.inr (Or.inl rfl))).wr (Or.inr (Or.inl rfl))) ((gi_no (by decide)).trans ((gi_no (by decide)).trans s2)) ((s3.si (Or.inr (Or.inl rfl))).si (Or.inr (Or.inl rfl))) (c3 ▸ s4) ⟨(k0 _ (by omega) (by omega)).trans s5, hv, ?_, ?_, (k0 _ (by omega) (by omega)).trans e7, ht, ?_⟩ (fun k hk => (k0 k (by omega) (by omega)).trans (s8 k hk))
    · rw [c3]
      match o1, s6 with
      | none, s6 => exact (k0 _ (by omega) (by omega)).trans (s6.trans (k0 _ (by omega) (by omega)).symm)
      | some x, s6 => exact s6.ext Ext.rfl' s6.2.2.1 (k0 _ (by omega) (by omega)) (k0 _ (by omega) (by omega))
    · rw [c3]
      match o2, s7 with
      | none, s7 => exact (k0 _ (by omega) (by omega)).trans (s7.trans (k0 _ (by omega) (by omega)).symm)
      | some x, s7 => exact s7.ext Ext.rfl' s7.2.2.1 (k0 _ (by omega) (by omega)) (k0 _ (by omega) (by omega))
    · show gi _ 29 (8 * n + 5 + 1) = gi _ 29 (8 * n + 5)
      rw [show 8 * n + 5 + 1 = 8 * n + 6 by omega, gi_eq, gi_nk (by omega), gi_eq]
theorem ToO.tst {t : Int} (L : LxOK X) (hm : X.mode = 1) (hn : 0 ≤ n ∧ n < 12) (hv : 0 ≤ v ∧ v ≤ 4) (ht : 1 ≤ t ∧ t ≤ 20) (H : Or3 X i p n i1 p1 v o1 o2 t) (hc : X.c i1 = 284) (H2 : ToS X 1 1 0 (i1 + 1) p1 i' p' x) (hb : X.c i' ≠ 286 ∧ X.c i' ≠ 285) : ToO X i p n i' p' (v, o1, o2, t, some x) := by
  intro d b Q h M e21 K
  refine H d b Q h M e21 (fun h1 S e7 => l_X8_readOrder_219 ⟨by omega, by omega, fun h2 e2 => ⟨fun _ => ⟨fun _ => ?_, fun z => ?_⟩, fun z => absurd S.1.1 z⟩⟩)
  · have M2 : MC X h2 i1 p1 := by rw [e2]; exact S.1.wr (Or.inr (Or.inl rfl))
    have t1 := M2.2.1.1
    have c2 : codeH h2 = codeH h1 := by rw [e2]; exact code_si10 (by omega)
    have e23 : gi h2 0 23 = gi h1 0 23 := by rw [e2]; exact gi_no (by decide)
    refine M2.next L (by omega) (fun h3 F3 M3 => ⟨rfl, rdTst L M3 (by omega) H2 hb (fun h4 M4 F4 E4 V4 => ⟨rfl, l_X8_readOrder_257 ⟨by omega, by omega, fun h5 e5 => ?_⟩⟩)⟩)
    subst e5
    obtain ⟨s1, s2, s3, s4, s5, s6, s7, s8⟩ := S
    have l1 := L.m1
    have t4 := M4.2.1.1
    have k4 := M4.2.2.2.2.1
    have c5 : codeH (si h4 29 (8 * n + 6) (gi h4 0 23)) = codeH h4 := code_si10 (by omega)
    have g29 : ∀ k, gi h4 29 k = gi h2 29 k := fun k => (F4.1 _ _ (by omega)).trans (F3.1 _ _ (by omega))
    have k0 : ∀ k, k ≠ 8 * n + 5 → k ≠ 8 * n + 6 → gi (si h4 29 (8 * n + 6) (gi h4 0 23)) 29 k = gi h1 29 k := fun k a1 a2 => (gi_nk a2).trans ((g29 k).trans (by rw [e2]; exact gi_nk a1))
    have E14 : Ext (codeH h1) (codeH h4) := by
      rw [← c2, ← F3.code]
      exact E4
    have f23 : gi h3 0 23 = gi h1 0 23 := (F3.1 _ _ (by omega)).trans e23
    have h4' : (codeH h4).2.2 < 400 := by show gi h4 0 23 < 400; omega
    have f21 : gi h2 0 21 = n + 1 := by rw [e2]; exact (gi_no (by decide)).trans s2
    have FR2 : FrR h h2 := by rw [e2]; exact s3.si (Or.inr (Or.inl rfl))
    refine K _ (M4.wr (Or.inr (Or.inl rfl))) ((gi_no (by decide)).trans ((F4.1 _ _ (by omega)).trans ((F3.1 _ _ (by omega)).trans f21))) (((FR2.trans F3.p.r).trans F4.r).si (Or.inr (Or.inl rfl))) (c5 ▸ s4.trans E14) ⟨(k0 _ (by omega) (by omega)).trans s5, hv, ?_, ?_, (k0 _ (by omega) (by omega)).trans e7, ht, ?_⟩ (fun k hk => (k0 k (by omega) (by omega)).trans (s8 k hk))
    · rw [c5]
      exact s6.ext E14 h4' (k0 _ (by omega) (by omega)) (k0 _ (by omega) (by omega))
    · rw [c5]
      exact s7.ext E14 h4' (k0 _ (by omega) (by omega)) (k0 _ (by omega) (by omega))
    · rw [c5]
      show 0 ≤ gi _ 29 (8 * n + 5) ∧ gi _ 29 (8 * n + 5 + 1) ≤ _ ∧ _ ∧ MM _ _ _ _ (gi _ 29 (8 * n + 5)) (gi _ 29 (8 * n + 5 + 1)) x
      rw [show 8 * n + 5 + 1 = 8 * n + 6 by omega, gi_eq, gi_nk (by omega), g29, e2, gi_eq]
      rw [f23, hm] at V4
      exact ⟨V4.1, Int.le_refl _, h4', V4⟩
  · subst e2
    exact absurd ((S.1.2.1.2.2.2.wd 26 (by decide)).mpr hc) z
theorem FaO.tst {t : Int} (L : LxOK X) (hn : 0 ≤ n ∧ n < 12) (H : Or3 X i p n i1 p1 v o1 o2 t) (hc : X.c i1 = 284) (H2 : ToF X 1 0 (i1 + 1) p1 j) : FaO X i p n j := by
  intro d b Q h M e21 K
  refine H d b Q h M e21 (fun h1 S e7 => l_X8_readOrder_219 ⟨by omega, by omega, fun h2 e2 => ⟨fun _ => ⟨fun _ => ?_, fun z => ?_⟩, fun z => absurd S.1.1 z⟩⟩)
  · have M2 : MC X h2 i1 p1 := by rw [e2]; exact S.1.wr (Or.inr (Or.inl rfl))
    have t1 := M2.2.1.1
    have FR2 : FrR h h2 := by rw [e2]; exact S.2.2.1.si (Or.inr (Or.inl rfl))
    exact M2.next L (by omega) (fun h3 F3 M3 => ⟨rfl, rdTstF L M3 (by omega) H2 (fun h4 F4 e1 e2 => ⟨rfl, o257b hn e1 e2 ((FR2.trans F3.p.r).trans F4.r) K⟩)⟩)
  · subst e2
    exact absurd ((S.1.2.1.2.2.2.wd 26 (by decide)).mpr hc) z
end ORD
