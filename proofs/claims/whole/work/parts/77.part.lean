/-! PARTS in the reference -/
def scn (c : Int) : List Int → Int → Int → Int
  | [], _, v => v
  | w :: r, k, v => scn c r (k + 1) (if c = w then k + 1 else v)
def ptF (mode c : Int) : Int := if mode = 0 then (if 258 ≤ c ∧ c ≤ 268 then c - 257 else -1) else (if c = 267 then 1 else if c = 269 then 2 else if c = 270 then 3 else if c = 271 then 4 else if c = 272 then 5 else if c = 262 then 6 else if c = 266 then 7 else -1)
def wC : List Int := [258, 259, 260, 261, 262, 263, 264, 265, 266, 267, 268]
def oC : List Int := [267, 269, 270, 271, 272, 262, 266]
theorem scn_w (c : Int) : scn c wC 0 (-1) = ptF 0 c := by
  unfold ptF wC
  simp only [scn]
  rw [if_pos True.intro]
  (repeat' split) <;> omega
theorem scn_o {c mode : Int} (hm : mode ≠ 0) : scn c oC 0 (-1) = ptF mode c := by
  unfold ptF oC
  simp only [scn]
  rw [if_neg hm]
  (repeat' split) <;> omega
section PART
variable {d b : Nat} {Q : Option AV → AH → Prop} {X : Txt} {h0 h : AH} {test i p dep o a c v : Int} {P : List (Int × Int)}
theorem lp_partAt : ∀ (ws : List Int) (k : Nat) (v : Int), k + ws.length = 11 → -1 ≤ v → v ≤ 11 → (∀ j : Nat, j < ws.length → ((gi h 0 16 = 1 ∧ gl h 0 17 = gl h 15 ((k + j : Nat) : Int)) ↔ c = ws.getD j 0)) → Q (some (vI (scn c ws k v))) h → Lp_X8_partAt_4 d b Q v k h
  | [], k, v, e, _, _, _, K => l_X8_partAt_4 ⟨fun _ => K, fun z => by rw [List.length_nil] at e; omega⟩
  | w :: r, k, v, e, v0, v1, H, K => by
    rw [List.length_cons] at e
    have H0 := H 0 (by rw [List.length_cons]; omega)
    rw [List.getD_cons_zero, Nat.add_zero] at H0
    have ih := fun v q0 q1 q => lp_partAt r (k + 1) v (by omega) q0 q1 (fun j hj => by
      have := H (j + 1) (by rw [List.length_cons]; omega)
      rw [List.getD_cons_succ] at this
      rwa [show k + 1 + j = k + (j + 1) by omega]) q
    have ec : ((k + 1 : Nat) : Int) = (k : Int) + 1 := by omega
    rw [ec] at ih
    unfold scn at K
    refine l_X8_partAt_4 ⟨fun z => by omega, fun _ => ⟨by omega, fun z => ⟨by omega, by omega, ih _ (by omega) (by omega) ?_⟩, fun z => ⟨by omega, ih _ v0 v1 ?_⟩⟩⟩
    · rw [if_pos (H0.mp z)] at K
      exact K
    · rw [if_neg (fun y => z (H0.mpr y))] at K
      exact K
theorem lp_orderPartAt : ∀ (ws : List Int) (k : Nat) (v : Int), k + ws.length = 7 → -1 ≤ v → v ≤ 11 → (∀ j : Nat, j < ws.length → ((gi h 0 16 = 1 ∧ gl h 0 17 = gl h 16 ((k + j : Nat) : Int)) ↔ c = ws.getD j 0)) → Q (some (vI (scn c ws k v))) h → Lp_X8_orderPartAt_4 d b Q v k h
  | [], k, v, e, _, _, _, K => l_X8_orderPartAt_4 ⟨fun _ => K, fun z => by rw [List.length_nil] at e; omega⟩
  | w :: r, k, v, e, v0, v1, H, K => by
    rw [List.length_cons] at e
    have H0 := H 0 (by rw [List.length_cons]; omega)
    rw [List.getD_cons_zero, Nat.add_zero] at H0
    have ih := fun v q0 q1 q => lp_orderPartAt r (k + 1) v (by omega) q0 q1 (fun j hj => by
      have := H (j + 1) (by rw [List.length_cons]; omega)
      rw [List.getD_cons_succ] at this
      rwa [show k + 1 + j = k + (j + 1) by omega]) q
    have ec : ((k + 1 : Nat) : Int) = (k : Int) + 1 := by omega
    rw [ec] at ih
    unfold scn at K
    refine l_X8_orderPartAt_4 ⟨fun z => by omega, fun _ => ⟨by omega, fun z => ⟨by omega, by omega, ih _ (by omega) (by omega) ?_⟩, fun z => ⟨by omega, ih _ v0 v1 ?_⟩⟩⟩
    · rw [if_pos (H0.mp z)] at K
      exact K
    · rw [if_neg (fun y => z (H0.mpr y))] at K
      exact K
theorem tab_w : ∀ k : Nat, k < 11 → wTab.getD k 0 = hsL.getD k 0 ∧ wC.getD k 0 = 258 + (k : Int) := by decide
theorem tab_o : ∀ k : Nat, k < 7 → ∃ j : Nat, j < 30 ∧ oTab.getD k 0 = hsL.getD j 0 ∧ oC.getD k 0 = 258 + (j : Int) := by decide
theorem c_partAt (t : Tk h c v) (T : TabM h) (K : Q (some (vI (ptF 0 c))) h) : WM GM (d + 1) b mX8_partAt [vR (some 0)] h Q := by
  refine w_X8_partAt (lp_partAt (c := c) wC 0 (-1) rfl (by decide) (by decide) (fun j hj => ?_) ?_)
  · have := tab_w j hj
    rw [Nat.zero_add, T.1 j hj, this.1, this.2]
    exact t.wd j (by have : j < 11 := hj; omega)
  · have := scn_w c
    rw [show ((0 : Nat) : Int) = 0 from rfl, this]
    exact K
theorem c_orderPartAt {mode : Int} (hm : mode ≠ 0) (t : Tk h c v) (T : TabM h) (K : Q (some (vI (ptF mode c))) h) : WM GM (d + 1) b mX8_orderPartAt [vR (some 0)] h Q := by
  refine w_X8_orderPartAt (lp_orderPartAt (c := c) oC 0 (-1) rfl (by decide) (by decide) (fun j hj => ?_) ?_)
  · obtain ⟨k, k1, k2, k3⟩ := tab_o j hj
    rw [Nat.zero_add, T.2.1 j hj, k2, k3]
    exact t.wd k k1
  · have := scn_o (c := c) hm
    rw [show ((0 : Nat) : Int) = 0 from rfl, this]
    exact K
theorem c_leaf (L : LxOK X) (M : MS X h0 h i p P dep) (hx : v ≠ 0) (hp : p < 50) (hc : X.c i ≠ -1) (k : ∀ h', MS X h0 h' (i + 1) (p + 1) P dep → codeH h' = (up1 (gi h 11) (gi h 0 23) o, up1 (gi h 12) (gi h 0 23) a, gi h 0 23 + 1) → Q none h') : WM GM (d + 3) b mX8_leaf [vR (some 0), vI v, vI o, vI a] h Q := by
  have l1 := L.lt M.tk.1 hc
  have l2 := L.m1
  have p0 := M.p0
  have lv := M.lv
  refine w_X8_leaf ⟨fun z => absurd z hx, fun _ => ⟨fun z => by omega, fun _ => must_1 L M.tp' M.ok M.tk hc (by decide) (fun h1 F1 t1 => ⟨rfl, ?_⟩)⟩⟩
  have M1 := M.m0.frN F1 (j := i) ⟨Int.le_refl _, M.m0.i4⟩
  have k0 := M1.k0
  have cd := M1.cd
  have c0 := cnt_0 P
  have g : ∀ x : Int, x ≠ 14 → x ≠ 15 → x ≠ 16 → gi h1 0 x = gi h 0 x := fun x a1 a2 a3 => F1.1 _ _ (by omega)
  refine l_X8_leaf_22 ⟨fun _ => ⟨by omega, fun h2 e2 => ⟨?_, fun h3 e3 => ?_⟩⟩, fun z => absurd ((g 19 (by decide) (by decide) (by decide)).trans M.ok) z⟩
  · replace e2 : h2 = emi h1 o a := e2
    rw [e2, emi_gi (by decide), g 26 (by decide) (by decide) (by decide)]
    omega
  · replace e2 : h2 = emi h1 o a := e2
    have M2 : MS0 h0 h2 (i + 1) P := by rw [e2]; exact M1.emiK (by omega)
    have f26 : gi h2 0 26 = p := by rw [e2, emi_gi (by decide), g 26 (by decide) (by decide) (by decide)]; exact M.lv
    subst e3
    refine k _ ⟨⟨M2.pm.mk' (gi_nk (by decide)) (fun x => gi_no (by decide)) (fun x => gi_no (by decide)), M2.pe, M2.ln, M2.i4, by rw [gi_nk (by decide)]; exact M2.k0, by rw [gi_nk (by decide)]; exact M2.cd, M2.fr.si (by omega)⟩, ?_, ?_, ?_, by omega, ?_, M.d0, M.tp⟩ ?_
    · rw [gi_nk (by decide), e2, emi_gi (by decide), g 19 (by decide) (by decide) (by decide)]
      exact M.ok
    · refine TokAt.fr (a := h1) t1 ?_ ⟨?_, ?_⟩ ?_ ?_
      · rw [gi_nk (by decide), e2, emi_gi (by decide)]
      · rw [gi_nk (by decide), e2, emi_gi (by decide)]
      · rw [gi_nk (by decide), e2, emi_gi (by decide)]
      · rw [gi_nk (by decide), e2, emi_gi (by decide)]
      · rw [e2]; rfl
    · rw [gi_eq, f26]
    · rw [gi_nk (by decide), e2, emi_gi (by decide), g 30 (by decide) (by decide) (by decide)]
      exact M.dp
    · have e : codeH (si h2 0 26 (gi h2 0 26 + 1)) = codeH h2 := by
        unfold codeH
        rw [giF_no (show (11 : Nat) ≠ 0 by decide), giF_no (show (12 : Nat) ≠ 0 by decide), gi_nk (by decide)]
      have e1 := F1.code
      unfold codeH at e1
      rw [e, e2, code_emi]
      have f11 : gi h1 11 = gi h 11 := congrArg (fun C : Cd => C.1) e1
      have f12 : gi h1 12 = gi h 12 := congrArg (fun C : Cd => C.2.1) e1
      have f23 : gi h1 0 23 = gi h 0 23 := congrArg (fun C : Cd => C.2.2) e1
      rw [f11, f12, f23]
theorem c_leaf0 (M : MS X h0 h i p P dep) (hx : v = 0 ∨ (v = 1 ∧ 50 ≤ p)) (k : Q none (si (si h 0 19 1) 0 18 (gi h 0 14))) : WM GM (d + 3) b mX8_leaf [vR (some 0), vI v, vI o, vI a] h Q := by
  have z : ¬ gi (si (si h 0 19 1) 0 18 (gi h 0 14)) 0 19 = 0 := by
    rw [gi_nk (by decide), gi_eq]
    decide
  have lv := M.lv
  exact w_X8_leaf ⟨fun _ => must_0 M.ok ⟨rfl, l_X8_leaf_22 ⟨fun y => absurd y z, fun _ => k⟩⟩, fun y => ⟨fun _ => must_0 M.ok ⟨rfl, l_X8_leaf_22 ⟨fun y => absurd y z, fun _ => k⟩⟩, fun y2 => by omega⟩⟩
/-- what the reference takes a part for -/
def rpO (X : Txt) (i : Int) : Int := if ptF X.mode (X.c i) = -1 then 0 else ptF X.mode (X.c i)
def rpN (X : Txt) (i : Int) : Prop := X.c i = 256 ∧ X.v i ≤ 1000
theorem ptF_256 (mode : Int) : ptF mode 256 = -1 := by
  unfold ptF
  split <;> decide
theorem ptF_R (mode c : Int) : ptF mode c = -1 ∨ (1 ≤ ptF mode c ∧ ptF mode c ≤ 11 ∧ c ≠ -1) := by
  unfold ptF
  (repeat' split) <;> omega
theorem rp_go (M : MS X h0 h i p P dep) (hc : X.c i ≠ 91) (hm : X.mode = 0 ∨ X.mode = 1)
    (k1 : rpN X i → WM GM (d + 3) 0 mX8_leaf [vR (some 0), vI 1, vI 0, vI (X.v i)] h (fun r h1 => r = none ∧ Lp_X8_readPart_102 d b Q (-1) h1))
    (k2 : ¬ rpN X i → ptF X.mode (X.c i) ≠ -1 → WM GM (d + 3) 0 mX8_leaf [vR (some 0), vI 1, vI (ptF X.mode (X.c i)), vI 0] h (fun r h1 => r = none ∧ Lp_X8_readPart_102 d b Q (ptF X.mode (X.c i)) h1))
    (k3 : ¬ rpN X i → ptF X.mode (X.c i) = -1 → WM GM (d + 3) 0 mX8_leaf [vR (some 0), vI 0, vI 0, vI 0] h (fun r h1 => r = none ∧ Lp_X8_readPart_102 d b Q (-1) h1)) :
    WM GM (d + 4) b mX8_readPart [vR (some 0)] h Q := by
  have T := M.tk.2.2.2
  have tp := M.tp'
  have main : Lp_X8_readPart_36 d b Q (ptF X.mode (X.c i)) h := by
    by_cases n : rpN X i
    · have e : ptF X.mode (X.c i) = -1 := by rw [n.1]; exact ptF_256 _
      have s2 := T.2.2.1.mp n.1
      have w := T.2.2.2.1 n.1
      unfold nuR at w
      have n2 := n.2
      have ew : gl h 0 17 = X.v i := by omega
      have k1' := k1 n
      rw [e]
      refine l_X8_readPart_36 ⟨fun _ => ⟨fun z => by omega, fun _ => l_X8_readPart_61 ⟨fun _ => ⟨fun z => by omega, fun _ => ⟨fun _ => ⟨fun z => by omega, fun _ => ?_⟩, fun z => absurd rfl z⟩⟩, fun z => absurd rfl z⟩⟩, fun z => absurd s2 z⟩
      rw [ew, zl2i_e (by omega)]
      exact k1'
    · have nd : gi h 0 16 = 2 → 1000 < gl h 0 17 := fun z => by
        have c := T.2.2.1.mpr z
        have w := T.2.2.2.1 c
        unfold nuR at w
        unfold rpN at n
        omega
      have fin : Lp_X8_readPart_61 d b Q (ptF X.mode (X.c i)) 0 h := by
        by_cases e : ptF X.mode (X.c i) = -1
        · have k3' := k3 n e
          rw [e]
          exact l_X8_readPart_61 ⟨fun _ => ⟨fun _ => ⟨fun _ => ⟨fun _ => k3', fun z => absurd rfl z⟩, fun z => absurd rfl z⟩, fun z => absurd rfl z⟩, fun z => absurd rfl z⟩
        · exact l_X8_readPart_61 ⟨fun z => absurd z e, fun _ => ⟨fun z => absurd z e, fun _ => ⟨fun _ => k2 n e, fun z => absurd rfl z⟩⟩⟩
      exact l_X8_readPart_36 ⟨fun z => ⟨fun _ => fin, fun y => absurd (nd z) y⟩, fun _ => fin⟩
  have e20 : gi h 0 20 = X.mode := tp.2.2.1
  refine w_X8_readPart ⟨fun z => absurd ((T.sg (by decide)).mp z) hc, fun _ => ⟨fun z => ?_, fun z => ?_⟩⟩
  · refine c_partAt T tp.2.2.2 ⟨_, rfl, ?_⟩
    rw [show X.mode = 0 by omega] at main
    exact main
  · exact c_orderPartAt (show X.mode ≠ 0 by omega) T tp.2.2.2 ⟨_, rfl, main⟩
theorem c_num1 (L : LxOK X) (M : MS X h0 h i p P dep) {lo hi : Int} (hc : X.c i = 256) (hv : lo ≤ X.v i ∧ X.v i ≤ hi) (hb : 0 ≤ lo ∧ hi ≤ 1000) (k : ∀ h', FrN h h' → TokAt X h' (i + 1) → Q (some (vI (X.v i))) h') : WM GM (d + 3) b mX8_number [vR (some 0), vL lo, vL hi] h Q := by
  have T := M.tk.2.2.2
  have s2 := T.2.2.1.mp hc
  have w := T.2.2.2.1 hc
  unfold nuR at w
  have ew : gl h 0 17 = X.v i := by omega
  refine w_X8_number ⟨fun _ => ⟨fun _ => must_1 L M.tp' M.ok M.tk (by omega) (by decide) (fun h' F t => ⟨rfl, ?_⟩), fun z => by omega⟩, fun z => absurd s2 z⟩
  rw [ew, zl2i_e (by omega)]
  exact k h' F t
theorem c_num0 (M : MS X h0 h i p P dep) {lo hi : Int} (hc : ¬ (X.c i = 256 ∧ lo ≤ X.v i ∧ X.v i ≤ hi)) (hb : 0 ≤ lo ∧ hi ≤ 1000) (k : ∀ u, Q (some (vI u)) (si (si h 0 19 1) 0 18 (gi h 0 14))) : WM GM (d + 3) b mX8_number [vR (some 0), vL lo, vL hi] h Q := by
  have T := M.tk.2.2.2
  refine w_X8_number ⟨fun s2 => ⟨fun z => ?_, fun _ => must_0 M.ok ⟨rfl, k _⟩⟩, fun _ => must_0 M.ok ⟨rfl, k _⟩⟩
  have c := T.2.2.1.mpr s2
  have w := T.2.2.2.1 c
  unfold nuR at w
  omega
end PART
