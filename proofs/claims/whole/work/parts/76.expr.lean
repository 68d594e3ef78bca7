/-! expressions: comparisons, brackets, "not", "and", "or"; what goes wrong in them -/
section TOS2
variable {X : Txt} {lo hi dep i p i1 p1 i2 p2 j o lv : Int} {x y : Vl}
theorem ops24 {q : List (Int × Int)} {h0 h : AH} {P : List (Int × Int)} (M : MS0 h0 h i (q ++ P)) (h5 : ∀ e ∈ q, 5 ≤ zbin e.1) : ∀ e ∈ q, 20 ≤ e.1 ∧ e.1 ≤ 24 := fun e he => by
  have a := M.pe e (List.mem_append.mpr (Or.inl he))
  have := zbin_5 a.1 (h5 e he)
  omega
theorem inn24 {q : List (Int × Int)} {h0 h : AH} {P : List (Int × Int)} (M : MS0 h0 h i (q ++ P)) (h5 : ∀ e ∈ q, 1 ≤ zbin e.1) : inn (q ++ P) = inn P := inn_app (fun e he => zbin_1 (h5 e he))
theorem cmp0 {P : List (Int × Int)} {h0 h : AH} (M : MS0 h0 h i P) (hP : topB P < 4) : cmpP P = 0 := by
  match P, M, hP with
  | [], _, _ => rfl
  | e :: r, M, hP =>
    have a := M.pe e List.mem_cons_self
    have c : ¬ (20 ≤ e.1 ∧ e.1 ≤ 27) := fun c => by
      have h2 : zbin e.1 < 4 := hP
      unfold zbin at h2
      (repeat' split at h2) <;> omega
    show (if 20 ≤ e.1 ∧ e.1 ≤ 24 then cmpP r else b2i (25 ≤ e.1 ∧ e.1 ≤ 27)) = 0
    rw [if_neg (by omega), b2i_f (by omega)]
theorem MSq {h0 h : AH} {P q : List (Int × Int)} (M : MS X h0 h i p (q ++ P) dep) (e : inn (q ++ P) = inn P) {test : Int} (hI : InnT P test) : InnT (q ++ P) test := by
  unfold InnT at *
  rw [e]
  exact hI
theorem zbin_cm {o : Int} (ho : 25 ≤ o ∧ o ≤ 27) : zbin o = 4 ∧ bop (sgO o) = -1 := by
  have k : o = 25 ∨ o = 26 ∨ o = 27 := by omega
  rcases k with k | k | k <;> subst k <;> decide
theorem Turn45 {t : Int} (hT : TurnOk X 4 t i) (hc : X.c i ≠ 287 ∧ X.c i ≠ 40) : TurnOk X 5 t i := by
  unfold TurnOk at *
  rw [if_pos (by decide)] at hT
  rw [if_neg (by decide)]
  exact Or.inr ⟨hT, hc⟩
theorem ToS.cmp (L : LxOK X) (ho : 25 ≤ o ∧ o ≤ 27) (h0 : X.c i ≠ 287 ∧ X.c i ≠ 40) (H1 : ToS X 5 5 dep i p i1 p1 x) (hc : X.c i1 = sgO o) (H2 : ToS X 5 5 dep (i1 + 1) p1 i2 p2 y) (hc2 : bop (X.c i2) = -1) : ToS X 3 4 dep i p i2 p2 (vBin o x y) := by
  intro d b Q test g0 h P t M hP hI hT K
  have z4 := zbin_cm ho
  refine H1 d b Q test g0 h P t M (by omega) (fun z => by omega) (Turn45 hT h0) (fun h1 q M1 E1 J1 X1 V1 => ?_)
  have hI' := hI (by decide)
  have q24 := ops24 M1.m0 E1
  have in1 := inn24 M1.m0 (fun e he => by have := E1 e he; omega)
  refine LE_sum M1.ok (beh_no M1 (by rw [hc]; exact z4.2) (beh_cmp M1 (MSq M1 in1 hI') (fun _ => ?_) (fun z => ?_)))
  rotate_left
  · rw [cmp_app q24, cmp0 M.m0 hP] at z
    exact absurd rfl z
  refine beh_cm L M1 ho hc (fun h2 F2 t2 => ?_)
  have l1 := L.lt M1.tk.1 (sgO_c (by omega) hc)
  have l2 := L.m1
  have M2 := M1.m0.frN F2 (j := i1) ⟨Int.le_refl _, M1.m0.i4⟩
  refine c_set M2 (show topB P < 5 by omega) (by decide) E1 (fun h3 F3 M3 C3 => ⟨rfl, ?_⟩)
  have pm := M3.pm.1
  have ln := M3.ln
  have t1 := M1.tk.1
  refine ⟨by omega, fun h4 e4 => ⟨1, rfl, ?_⟩⟩
  subst e4
  have M4 := M3.pshK (o := o) (a := 0) (by omega) (by omega)
  have c4 : codeH (psh h3 o 0) = flu q (codeH h1) := by rw [psh_code, C3, F2.code]
  have g : ∀ z : Int, z ≠ 14 → z ≠ 15 → z ≠ 16 → z ≠ 23 → z ≠ 29 → gi (psh h3 o 0) 0 z = gi h1 0 z := fun z a1 a2 a3 a4 a5 => (psh_gi a5).trans ((F3.1 _ _ (by omega)).trans (F2.1 _ _ (by omega)))
  refine H2 d b Q test g0 (psh h3 o 0) ((o, 0) :: P) 1 ⟨M4, (g 19 (by decide) (by decide) (by decide) (by decide) (by decide)).trans M1.ok, (t2.frT F3).pshK, (g 26 (by decide) (by decide) (by decide) (by decide) (by decide)).trans M1.lv, M1.p0, (g 30 (by decide) (by decide) (by decide) (by decide) (by decide)).trans M1.dp, M1.d0, M1.tp⟩ (by show zbin o < _; omega) (fun z => by omega) (by unfold TurnOk; rw [if_neg (by decide)]; exact Or.inl rfl) (fun h5 q5 M5 E5 J5 X5 V5 => ?_)
  have q524 := ops24 M5.m0 E5
  have in5 := inn24 M5.m0 (fun e he => by have := E5 e he; omega)
  have in6 : inn ((o, 0) :: P) = inn P := by
    show (if 31 ≤ o then o else inn P) = _
    rw [if_neg (by omega)]
  refine LE_sum M5.ok (beh_no M5 hc2 (beh_cmp M5 (MSq M5 (P := (o, 0) :: P) in5 (by unfold InnT at *; rw [in6]; exact hI')) (fun z => ?_) (fun _ => ⟨2, rfl, ?_⟩)))
  · rw [cmp_app q524] at z
    unfold cmpP at z
    dsimp only at z
    rw [if_neg (by omega), b2i_t (by omega)] at z
    omega
  · have ea : q5 ++ (o, 0) :: P = (q5 ++ [(o, 0)]) ++ P := by rw [List.append_assoc]; rfl
    rw [ea] at M5
    have en : (flu q (codeH h1)).2.2 = gi (psh h3 o 0) 0 23 := by rw [← c4]; rfl
    have hk : gi h 0 23 ≤ (flu q (codeH h1)).2.2 := by
      rw [flu_n]
      have := cnt_0 q
      have := X1.1
      dsimp only [codeH] at this ⊢
      omega
    rw [c4] at X5
    rw [← en] at J5 V5
    refine K h5 (q5 ++ [(o, 0)]) M5 (fun e he => ?_) (J5.app (nJ.one (fun z => by omega)) hk) ((X1.flu J1 X1.1 rfl).trans X5) (MMc.bin V1 X5 J5 V5 (by omega))
    rcases List.mem_append.mp he with z | z
    · have := E5 e z
      omega
    · rw [List.mem_singleton.mp z]
      show 3 ≤ zbin o
      omega
theorem ToS.rd (L : LxOK X) (hc : X.c i = 40) (hd : dep < 8) (H : ToS X 1 1 (dep + 1) (i + 1) p i1 p1 x) (hc1 : X.c i1 = 41) : ToS X 3 4 dep i p (i1 + 1) p1 x := by
  intro d b Q test g0 h P t M hP hI hT K
  have T := M.tk.2.2.2
  unfold TurnOk at hT
  rw [if_pos (by decide)] at hT
  subst hT
  have d0 := M.d0
  refine LE_plain M.ok (w_X8_readPlain ⟨fun z => ?_, fun _ => ⟨fun _ => c_open L M hd (by omega) (Or.inl rfl) (fun h1 M1 C1 => ⟨rfl, 0, rfl, ?_⟩), fun z => absurd ((T.sg (by decide)).mpr hc) z⟩⟩)
  · have := (T.wd 29 (by decide)).mp z
    omega
  have k1 : gi h1 0 23 = gi h 0 23 := congrArg (fun C : Cd => C.2.2) C1
  refine H d b Q test g0 h1 ((31, 0) :: P) 0 M1 (by show zbin 31 < 1; decide) (fun _ => Or.inl rfl) (by unfold TurnOk; rw [if_pos (by decide)]) (fun h2 q M2 E2 J2 X2 V2 => ?_)
  refine bt_rd L M2 (by omega) E2 hc1 (fun h3 M3 C3 => ?_)
  rw [show dep + 1 - 1 = dep by omega] at M3
  rw [k1] at J2 V2
  refine K h3 [] M3 (fun _ z => by cases z) nJ.nil ?_ ?_
  · rw [C3, ← C1]
    exact X2.flu (k := gi h1 0 23) (by rw [k1]; exact J2) X2.1 rfl
  · show MMc X.mode (codeH h3) _ x
    rw [C3]
    exact V2
theorem ToS.sq (L : LxOK X) (hc : X.c i = 91) (hd : dep < 8) (H : ToS X 5 5 (dep + 1) (i + 1) p i1 p1 x) (hb : bop (X.c i1) = -1) (hc1 : X.c i1 = 93) : ToS X 7 7 dep i p (i1 + 1) p1 x := by
  intro d b Q test g0 h P t M hP hI hT K
  have T := M.tk.2.2.2
  unfold TurnOk at hT
  rw [if_neg (by decide)] at hT
  have d0 := M.d0
  refine LE_part M hT (fun d' => w_X8_readPart ⟨fun _ => c_open L M hd (by omega) (Or.inr rfl) (fun h1 M1 C1 => ⟨rfl, 1, rfl, ?_⟩), fun z => absurd ((T.sg (by decide)).mpr hc) z⟩)
  have k1 : gi h1 0 23 = gi h 0 23 := congrArg (fun C : Cd => C.2.2) C1
  refine H d b Q test g0 h1 ((32, 0) :: P) 1 M1 (by show zbin 32 < 5; decide) (fun z => by omega) (by unfold TurnOk; rw [if_neg (by decide)]; exact Or.inl rfl) (fun h2 q M2 E2 J2 X2 V2 => ?_)
  refine beh_sq L M2 (by omega) E2 hb hc1 (fun h3 M3 C3 => ?_)
  rw [show dep + 1 - 1 = dep by omega] at M3
  rw [k1] at J2 V2
  refine K h3 [] M3 (fun _ z => by cases z) nJ.nil ?_ ?_
  · rw [C3, ← C1]
    exact X2.flu (k := gi h1 0 23) (by rw [k1]; exact J2) X2.1 rfl
  · show MMc X.mode (codeH h3) _ x
    rw [C3]
    exact V2
/-- a "not" is read -/
theorem not_go (L : LxOK X) {d b : Nat} {Q : Option AV → AH → Prop} {test : Int} {g0 h : AH} {P : List (Int × Int)} (M : MS X g0 h i p P dep) (hc : X.c i = 287) (K : ∀ h1, MS X g0 h1 (i + 1) p ((28, 0) :: P) dep → codeH h1 = codeH h → LE d b Q test 0 h1) : LE d b Q test 0 h := by
  have T := M.tk.2.2.2
  have l1 := L.lt M.tk.1 (show X.c i ≠ -1 by omega)
  have l2 := L.m1
  have pm := M.m0.pm.1
  have ln := M.m0.ln
  have M1 := M.m0.pshK (o := 28) (a := 0) (by omega) (by omega)
  refine LE_plain M.ok (w_X8_readPlain ⟨fun _ => ⟨by omega, fun h1 e1 => ?_⟩, fun z => absurd ((T.wd 29 (by decide)).mpr (by omega)) z⟩)
  replace e1 : h1 = psh h 28 0 := e1
  subst e1
  refine next_T L (M.tp.fr M1.fr) M.tk.pshK (by omega) (fun h2 F2 t2 => ⟨rfl, 0, rfl, K h2 ⟨M1.frN F2 ⟨Int.le_refl _, by omega⟩, ?_, t2, ?_, M.p0, ?_, M.d0, M.tp⟩ (by rw [F2.code, psh_code])⟩)
  · rw [F2.1 _ _ (by omega), psh_gi (by decide)]
    exact M.ok
  · rw [F2.1 _ _ (by omega), psh_gi (by decide)]
    exact M.lv
  · rw [F2.1 _ _ (by omega), psh_gi (by decide)]
    exact M.dp
theorem ToS.not (L : LxOK X) (hc : X.c i = 287) (H : ToS X 3 4 dep (i + 1) p i1 p1 x) : ToS X 3 4 dep i p i1 p1 (vNot x) := by
  intro d b Q test g0 h P t M hP hI hT K
  have hT2 := hT
  unfold TurnOk at hT
  rw [if_pos (by decide)] at hT
  subst hT
  refine not_go L M hc (fun h1 M1 C1 => ?_)
  have k1 : gi h1 0 23 = gi h 0 23 := congrArg (fun C : Cd => C.2.2) C1
  refine H d b Q test g0 h1 ((28, 0) :: P) 0 M1 (by show zbin 28 < 4; decide) (fun _ => hI (by decide)) (by unfold TurnOk; rw [if_pos (by decide)]) (fun h2 q M2 E2 J2 X2 V2 => ?_)
  have ea : q ++ ((28, 0) :: P : List (Int × Int)) = (q ++ [(28, 0)]) ++ P := by rw [List.append_assoc]; rfl
  rw [ea] at M2
  rw [k1] at J2 V2
  rw [C1] at X2
  refine K h2 (q ++ [(28, 0)]) M2 (fun e he => ?_) (J2.app (nJ.one (fun z => by omega)) (Int.le_refl _)) X2 V2.not
  rcases List.mem_append.mp he with z | z
  · exact E2 e z
  · rw [List.mem_singleton.mp z]
    show 3 ≤ zbin 28
    decide
theorem ToF.not (L : LxOK X) (hc : X.c i = 287) (H : ToF X 4 dep (i + 1) p j) : ToF X 4 dep i p j := by
  intro d b Q test g0 h P t M hP hI hT K
  unfold TurnOk at hT
  rw [if_pos (by decide)] at hT
  subst hT
  exact not_go L M hc (fun h1 M1 C1 => H d b Q test g0 h1 ((28, 0) :: P) 0 M1 (by show zbin 28 < 4; decide) (fun _ => hI (by decide)) (by unfold TurnOk; rw [if_pos (by decide)]) K)
/-- "and", "or" are read -/
theorem jmp_go (L : LxOK X) {d b : Nat} {Q : Option AV → AH → Prop} {test : Int} {g0 h : AH} {P q : List (Int × Int)} (M : MS X g0 h i p (q ++ P) dep) (ho : o = 29 ∨ o = 30) (hc : X.c i = if o = 29 then 286 else 285) (hP : topB P < zbin o) (hq : ∀ e ∈ q, zbin o ≤ zbin e.1)
    (K : ∀ h1 : AH, MS X g0 h1 (i + 1) p ((o, (flu q (codeH h)).2.2) :: P) dep → codeH h1 = (up1 (flu q (codeH h)).1 (flu q (codeH h)).2.2 o, up1 (flu q (codeH h)).2.1 (flu q (codeH h)).2.2 0, (flu q (codeH h)).2.2 + 1) → LE d b Q test 0 h1) : LE d b Q test 2 h := by
  have T := M.tk.2.2.2
  have cn : X.c i ≠ -1 := by rcases ho with z | z <;> subst z <;> rw [hc] <;> decide
  have l1 := L.lt M.tk.1 cn
  have l2 := L.m1
  have fin : ∀ h1, FrT h h1 → MS0 g0 h1 i P → codeH h1 = flu q (codeH h) → (0 ≤ gi h1 0 29 ∧ gi h1 0 29 < 400) ∧ (∀ h2, h2 = psh h1 o (gi h1 0 23) → (0 ≤ gi h2 0 23 ∧ gi h2 0 23 < 400) ∧ ∀ h3, h3 = emi h2 o 0 → WM GM (d + 4) 0 mX8_next [vR (some 0)] h3 (fun r h4 => r = none ∧ ∃ u, some (vI 0) = some (vI u) ∧ LE d b Q test u h4)) := fun h1 F1 M1 C1 => by
    have pm := M1.pm.1
    have ln := M1.ln
    have k0 := M1.k0
    have cd := M1.cd
    have c0 := cnt_0 P
    refine ⟨by omega, fun h2 e2 => ⟨by rw [e2, psh_gi (by decide)]; omega, fun h3 e3 => ?_⟩⟩
    subst e3 e2
    have M3 := M1.jmp ho (by omega)
    refine next_T L (M.tp.fr M3.fr) ((M.tk.frT F1).pshK.emiK) cn (fun h4 F4 t4 => ⟨rfl, 0, rfl, K h4 ⟨?_, ?_, t4, ?_, M.p0, ?_, M.d0, M.tp⟩ ?_⟩)
    · have := M3.frN F4 (j := i + 1) ⟨Int.le_refl _, by omega⟩
      rw [show gi h1 0 23 = (flu q (codeH h)).2.2 from by rw [← C1]; rfl] at this
      exact this
    · rw [F4.1 _ _ (by omega), emi_gi (by decide), psh_gi (by decide), F1.1 _ _ (by omega)]
      exact M.ok
    · rw [F4.1 _ _ (by omega), emi_gi (by decide), psh_gi (by decide), F1.1 _ _ (by omega)]
      exact M.lv
    · rw [F4.1 _ _ (by omega), emi_gi (by decide), psh_gi (by decide), F1.1 _ _ (by omega)]
      exact M.dp
    · rw [F4.code, code_emi]
      have e := (psh_code (h := h1) (o := o) (a := gi h1 0 23)).trans C1
      rw [← e]
      rfl
  refine LE_tst M.ok (w_X8_behindTest ?_)
  rcases ho with ho | ho <;> subst ho
  · rw [b2i_t (show gi h 0 16 = 1 ∧ gl h 0 17 = 1476 from (T.wd 28 (by decide)).mpr hc)]
    refine l_X8_behindTest_8 ⟨fun z => by omega, fun _ => l_X8_behindTest_22 ⟨fun z => by omega, fun _ => c_set M.m0 hP (by decide) hq (fun h1 F1 M1 C1 => ⟨rfl, fun z => by omega, fun _ => ?_⟩)⟩⟩
    obtain ⟨f1, f2⟩ := fin h1 F1 M1 C1
    exact ⟨f1, fun h2 e2 => ⟨fun z => by omega, fun _ => ⟨(f2 h2 e2).1, (f2 h2 e2).2⟩⟩⟩
  · have hc' : X.c i = 285 := hc
    rw [b2i_f (show ¬ (gi h 0 16 = 1 ∧ gl h 0 17 = 1476) from fun z => by have := (T.wd 28 (by decide)).mp z; omega)]
    refine l_X8_behindTest_8 ⟨fun _ => ⟨fun _ => l_X8_behindTest_22 ⟨fun _ => c_set M.m0 hP (by decide) hq (fun h1 F1 M1 C1 => ⟨rfl, fun _ => ?_, fun z => by omega⟩), fun z => by omega⟩, fun z => absurd ((T.wd 27 (by decide)).mpr hc') z⟩, fun z => by omega⟩
    obtain ⟨f1, f2⟩ := fin h1 F1 M1 C1
    exact ⟨f1, fun h2 e2 => ⟨fun _ => ⟨(f2 h2 e2).1, (f2 h2 e2).2⟩, fun z => by omega⟩⟩
theorem t1_2 {hi : Int} (h : hi ≤ 4) : t1Of hi = 2 := if_pos h
theorem t1_3 {hi : Int} (h : 4 < hi) : t1Of hi = 3 := if_neg (by omega)
theorem ToS.jmp (L : LxOK X) (ho : o = 29 ∨ o = 30) (hlv : zbin o = lv) (H1 : ToS X lv lv dep i p i1 p1 x) (hc : X.c i1 = if o = 29 then 286 else 285) {l2 h2 : Int} (hl : lv ≤ l2 ∧ lv < h2 ∧ h2 ≤ 4) (H2 : ToS X l2 h2 dep (i1 + 1) p1 i2 p2 y) : ToS X lv lv dep i p i2 p2 (vJmp (if o = 29 then 0 else 1) x y) := by
  intro d b Q test g0 h P t M hP hI hT K
  have z0 : lv ≤ 4 := by omega
  rw [t1_2 z0] at K
  refine H1 d b Q test g0 h P t M hP hI hT (fun h1 q M1 E1 J1 X1 V1 => ?_)
  rw [t1_2 z0]
  refine jmp_go L M1 ho hc (by omega) (fun e he => by have := E1 e he; omega) (fun h3 M3 C3 => ?_)
  have in6 : inn ((o, (flu q (codeH h1)).2.2) :: P) = inn P := by
    show (if 31 ≤ o then o else inn P) = _
    rw [if_neg (by omega)]
  refine H2 d b Q test g0 h3 _ 0 M3 (by show zbin o < _; omega) (fun _ => by unfold InnT; rw [in6]; exact hI z0) (by unfold TurnOk; rw [if_pos hl.2.2]) (fun h5 q5 M5 E5 J5 X5 V5 => ?_)
  rw [t1_2 hl.2.2]
  have ea : q5 ++ (o, (flu q (codeH h1)).2.2) :: P = (q5 ++ [(o, (flu q (codeH h1)).2.2)]) ++ P := by rw [List.append_assoc]; rfl
  rw [ea] at M5
  have en : gi h3 0 23 = (flu q (codeH h1)).2.2 + 1 := congrArg (fun C : Cd => C.2.2) C3
  have hk : gi h 0 23 ≤ (flu q (codeH h1)).2.2 := by
    rw [flu_n]
    have := cnt_0 q
    have := X1.1
    dsimp only [codeH] at this ⊢
    omega
  rw [C3] at X5
  rw [en] at J5 V5
  refine K h5 (q5 ++ [(o, (flu q (codeH h1)).2.2)]) M5 (fun e he => ?_) (J5.app (nJ.one (fun _ => hk)) (by omega)) ((X1.flu J1 X1.1 rfl).trans (Ext.trans ⟨by dsimp only; omega, fun z hz => ⟨up1_ne (by omega), up1_ne (by omega)⟩⟩ X5)) (MMc.jmp V1 X5 J5 V5 ho)
  rcases List.mem_append.mp he with z | z
  · have := E5 e z
    omega
  · rw [List.mem_singleton.mp z]
    show lv ≤ zbin o
    omega
theorem ToF.jmp (L : LxOK X) (ho : o = 29 ∨ o = 30) (hlv : zbin o = lv) (H1 : ToS X lv lv dep i p i1 p1 x) (hc : X.c i1 = if o = 29 then 286 else 285) {h2 : Int} (hl : lv < h2 ∧ h2 ≤ 4) (H2 : ToF X h2 dep (i1 + 1) p1 j) : ToF X lv dep i p j := by
  intro d b Q test g0 h P t M hP hI hT K
  have z0 : lv ≤ 4 := by omega
  refine H1 d b Q test g0 h P t M hP hI hT (fun h1 q M1 E1 J1 X1 V1 => ?_)
  rw [t1_2 z0]
  refine jmp_go L M1 ho hc (by omega) (fun e he => by have := E1 e he; omega) (fun h3 M3 C3 => ?_)
  have in6 : inn ((o, (flu q (codeH h1)).2.2) :: P) = inn P := by
    show (if 31 ≤ o then o else inn P) = _
    rw [if_neg (by omega)]
  exact H2 d b Q test g0 h3 _ 0 M3 (by show zbin o < _; omega) (fun _ => by unfold InnT; rw [in6]; exact hI z0) (by unfold TurnOk; rw [if_pos hl.2]) K
end TOS2
