/-! comparisons, brackets, "not", "and", "or" in the reference -/
section CLOSE
variable {d b : Nat} {Q : Option AV → AH → Prop} {X : Txt} {h0 h : AH} {test i p dep o : Int} {P q : List (Int × Int)}
theorem beh_cmp (M : MS X h0 h i p P dep) (hI : InnT P test) (k0 : cmpP P = 0 → Lp_X8_behindSum_172 d b Q h) (k1 : cmpP P ≠ 0 → Q (some (vI 2)) h) : Lp_X8_behindSum_102 d b Q test (inn P) h := by
  have n := pileN M
  have e : cmpF (gi h 13) (gi h 0 29).toNat = cmpP P := by rw [n.1, cmpF_eq M.m0.pm.2]
  unfold InnT at hI
  refine l_X8_behindSum_102 ⟨fun z => by omega, fun _ => ⟨fun z => ⟨fun z2 => by omega, fun _ => ⟨n.2, ?_⟩⟩, fun z => ⟨n.2, ?_⟩⟩⟩
  · rw [e]
    exact ⟨k0, k1⟩
  · rw [e]
    exact ⟨k0, k1⟩
theorem beh_cm (L : LxOK X) (M : MS X h0 h i p P dep) (ho : 25 ≤ o ∧ o ≤ 27) (hc : X.c i = sgO o) (k : ∀ h', FrN h h' → TokAt X h' (i + 1) → WM GM (d + 2) 0 mX8_settle [vR (some 0), vI 5] h' (fun r h2 => r = none ∧ (0 ≤ gi h2 0 29 ∧ gi h2 0 29 < 400) ∧ ∀ h3, h3 = psh h2 o 0 → Q (some (vI 1)) h3)) : Lp_X8_behindSum_172 d b Q h := by
  have T := M.tk.2.2.2
  have hn := sgO_c (by omega) hc
  have ok' : ∀ h', FrN h h' → gi h' 0 19 = 0 := fun h' F => (F.1 _ _ (by omega)).trans M.ok
  have c3 : o = 25 ∨ o = 26 ∨ o = 27 := by omega
  rcases c3 with c | c | c <;> subst c
  · have e : X.c i = 60 := hc
    refine l_X8_behindSum_172 ⟨fun _ => l_X8_behindSum_203 ⟨fun z => by omega, fun _ => must_1 L M.tp' M.ok M.tk hn (by decide) (fun h' F t => ⟨rfl, fun _ => k h' F t, fun z => absurd (ok' h' F) z⟩)⟩, fun z => absurd ((T.sg (by decide)).mpr e) z⟩
  · have e : X.c i = 62 := hc
    refine l_X8_behindSum_172 ⟨fun z => absurd ((T.sg (by decide)).mp z) (by omega), fun _ => ⟨fun _ => l_X8_behindSum_203 ⟨fun z => by omega, fun _ => must_1 L M.tp' M.ok M.tk hn (by decide) (fun h' F t => ⟨rfl, fun _ => k h' F t, fun z => absurd (ok' h' F) z⟩)⟩, fun z => absurd ((T.sg (by decide)).mpr e) z⟩⟩
  · have e : X.c i = 61 := hc
    refine l_X8_behindSum_172 ⟨fun z => absurd ((T.sg (by decide)).mp z) (by omega), fun _ => ⟨fun z => absurd ((T.sg (by decide)).mp z) (by omega), fun _ => l_X8_behindSum_203 ⟨fun _ => ⟨fun _ => must_1 L M.tp' M.ok M.tk hn (by decide) (fun h' F t => ⟨rfl, fun _ => k h' F t, fun z => absurd (ok' h' F) z⟩), fun z => absurd ((T.sg (by decide)).mpr e) z⟩, fun z => absurd rfl z⟩⟩⟩
theorem beh_cm0 (M : MS X h0 h i p P dep) (hc : X.c i ≠ 60 ∧ X.c i ≠ 62 ∧ X.c i ≠ 61) (k : Q (some (vI 1)) (si (si h 0 19 1) 0 18 (gi h 0 14))) : Lp_X8_behindSum_172 d b Q h := by
  have T := M.tk.2.2.2
  refine l_X8_behindSum_172 ⟨fun z => absurd ((T.sg (by decide)).mp z) hc.1, fun _ => ⟨fun z => absurd ((T.sg (by decide)).mp z) hc.2.1, fun _ => l_X8_behindSum_203 ⟨fun _ => ⟨fun z => absurd ((T.sg (by decide)).mp z) hc.2.2, fun _ => must_0 M.ok ⟨rfl, fun z => ?_, fun _ => k⟩⟩, fun z => absurd rfl z⟩⟩⟩
  rw [gi_nk (by decide), gi_eq] at z
  omega
theorem c_open (L : LxOK X) (M : MS X h0 h i p P dep) (hd : dep < 8) (hc : X.c i ≠ -1) (ho : o = 31 ∨ o = 32) (k : ∀ h', MS X h0 h' (i + 1) p ((o, 0) :: P) (dep + 1) → codeH h' = codeH h → Q none h') : WM GM (d + 3) b mX8_openBracket [vR (some 0), vI o] h Q := by
  have l1 := L.lt M.tk.1 hc
  have l2 := L.m1
  have d0 := M.d0
  refine w_X8_openBracket ⟨fun z => by have := M.dp; omega, fun _ => must_1 L M.tp' M.ok M.tk hc (by decide) (fun h1 F t => ⟨rfl, ?_⟩)⟩
  have ok1 : gi h1 0 19 = 0 := (F.1 _ _ (by omega)).trans M.ok
  have dp1 : gi h1 0 30 = dep := (F.1 _ _ (by omega)).trans M.dp
  have M1 := M.m0.frN F (j := i) ⟨Int.le_refl _, M.m0.i4⟩
  refine l_X8_openBracket_18 ⟨fun _ => ⟨by omega, fun h2 e2 => ?_⟩, fun z => absurd ok1 z⟩
  have n2 : gi h2 0 29 = gi h1 0 29 := by rw [e2, gi_nk (by decide)]
  have pm := M1.pm.1
  have ln := M1.ln
  have M2 : MS0 h0 h2 i P := ⟨M1.pm.mk' n2 (fun x => by rw [e2, gi_no (by decide)]) (fun x => by rw [e2, gi_no (by decide)]), M1.pe, ln, M1.i4, by rw [e2, gi_nk (by decide)]; exact M1.k0, by rw [e2, gi_nk (by decide)]; exact M1.cd, by rw [e2]; exact M1.fr.si (by omega)⟩
  refine ⟨by omega, fun h3 e3 => ?_⟩
  replace e3 : h3 = psh h2 o 0 := e3
  subst e3
  refine k _ ⟨M2.pshK (by omega) (by omega), ?_, ?_, ?_, M.p0, ?_, by omega, M.tp⟩ ?_
  · rw [psh_gi (by decide), e2, gi_nk (by decide)]
    exact ok1
  · refine TokAt.pshK (t.fr ?_ ⟨?_, ?_⟩ ?_ ?_)
    · rw [e2, gi_nk (by decide)]
    · rw [e2, gi_nk (by decide)]
    · rw [e2, gi_nk (by decide)]
    · rw [e2, gi_nk (by decide)]
    · rw [e2]
      rfl
  · rw [psh_gi (by decide), e2, gi_nk (by decide), F.1 _ _ (by omega)]
    exact M.lv
  · rw [psh_gi (by decide), e2, gi_eq, dp1]
  · rw [psh_code, ← F.code, e2]
    unfold codeH
    rw [giF_no (show (11 : Nat) ≠ 0 by decide), giF_no (show (12 : Nat) ≠ 0 by decide), gi_nk (by decide)]
theorem c_open0 (M : MS X h0 h i p P dep) (hd : ¬ dep < 8) (k : Q none (si (si h 0 19 1) 0 18 (gi h 0 14))) : WM GM (d + 3) b mX8_openBracket [vR (some 0), vI o] h Q := by
  refine w_X8_openBracket ⟨fun _ => must_0 M.ok ⟨rfl, l_X8_openBracket_18 ⟨fun z => ?_, fun _ => k⟩⟩, fun z => by have := M.dp; omega⟩
  rw [gi_nk (by decide), gi_eq] at z
  omega
/-- a bracket is closed -/
theorem close_MS {h1 h2 : AH} (L : LxOK X) (M : MS X h0 h i p (q ++ (o, 0) :: P) dep) (hd : 1 ≤ dep) (ho : o = 31 ∨ o = 32) (F1 : FrN h h1) (t : TokAt X h1 (i + 1)) (F2 : FrT h1 h2) (M2 : MS0 h0 h2 (i + 1) ((o, 0) :: P)) (C : codeH h2 = flu q (codeH h1)) :
    MS X h0 (si (si h2 0 29 (gi h2 0 29 - 1)) 0 30 (gi h2 0 30 - 1)) (i + 1) p P (dep - 1) ∧ codeH (si (si h2 0 29 (gi h2 0 29 - 1)) 0 30 (gi h2 0 30 - 1)) = flu q (codeH h) := by
  have M3 := M2.pop ho
  have dp := M.dp
  have d0 := M.d0
  have g : ∀ x : Int, x ≠ 14 → x ≠ 15 → x ≠ 16 → x ≠ 23 → x ≠ 29 → gi h2 0 x = gi h 0 x := fun x a1 a2 a3 a4 a5 => (F2.1 _ _ (by omega)).trans (F1.1 _ _ (by omega))
  refine ⟨⟨⟨M3.pm.mk' (gi_nk (by decide)) (fun x => gi_no (by decide)) (fun x => gi_no (by decide)), M3.pe, M3.ln, M3.i4, by rw [gi_nk (by decide)]; exact M3.k0, by rw [gi_nk (by decide)]; exact M3.cd, M3.fr.si (by omega)⟩, ?_, ?_, ?_, M.p0, ?_, by omega, M.tp⟩, ?_⟩
  · rw [gi_nk (by decide), gi_nk (by decide), g 19 (by decide) (by decide) (by decide) (by decide) (by decide)]
    exact M.ok
  · refine (t.frT F2).fr ?_ ⟨?_, ?_⟩ ?_ rfl
    · rw [gi_nk (by decide), gi_nk (by decide)]
    · rw [gi_nk (by decide), gi_nk (by decide)]
    · rw [gi_nk (by decide), gi_nk (by decide)]
    · rw [gi_nk (by decide), gi_nk (by decide)]
  · rw [gi_nk (by decide), gi_nk (by decide), g 26 (by decide) (by decide) (by decide) (by decide) (by decide)]
    exact M.lv
  · rw [gi_eq, g 30 (by decide) (by decide) (by decide) (by decide) (by decide), dp]
  · rw [← F1.code, ← C]
    unfold codeH
    rw [giF_no (show (11 : Nat) ≠ 0 by decide), giF_no (show (11 : Nat) ≠ 0 by decide), giF_no (show (12 : Nat) ≠ 0 by decide), giF_no (show (12 : Nat) ≠ 0 by decide), gi_nk (by decide), gi_nk (by decide)]
/-- behind a sum in square brackets -/
theorem beh_sq (L : LxOK X) (M : MS X h0 h i p (q ++ (32, 0) :: P) dep) (hd : 1 ≤ dep) (hq : ∀ e ∈ q, 5 ≤ zbin e.1) (hb : bop (X.c i) = -1) (hc : X.c i = 93) (k : ∀ h', MS X h0 h' (i + 1) p P (dep - 1) → codeH h' = flu q (codeH h) → LE d b Q test 3 h') : LE d b Q test 3 h := by
  have q24 : ∀ e ∈ q, e.1 ≤ 30 := fun e he => zbin_1 (by have := hq e he; omega)
  refine LE_sum M.ok (beh_no M hb ?_)
  rw [show inn (q ++ (32, 0) :: P) = 32 from inn_app q24]
  have e := (M.tk.2.2.2.sg (s := 93) (by decide)).mpr hc
  refine l_X8_behindSum_102 ⟨fun _ => must_1 L M.tp' M.ok M.tk (by omega) (by rw [b2i_t e]; decide) (fun h1 F1 t1 => ⟨rfl, fun _ => ?_, fun z => absurd ((F1.1 _ _ (by omega)).trans M.ok) z⟩), fun z => absurd rfl z⟩
  have l1 := L.lt M.tk.1 (show X.c i ≠ -1 by omega)
  have l2 := L.m1
  have M1 := M.m0.frN F1 (j := i + 1) ⟨by omega, by omega⟩
  refine c_set M1 (by show zbin 32 < 5; decide) (by decide) hq (fun h2 F2 M2 C2 => ⟨rfl, ?_⟩)
  have pm := M2.pm.1
  have ln := M2.ln
  rw [List.length_cons] at pm ln
  have dp : gi h2 0 30 = dep := (F2.1 _ _ (by omega)).trans ((F1.1 _ _ (by omega)).trans M.dp)
  have d0 := M.d0
  have K := close_MS L M hd (Or.inr rfl) F1 t1 F2 M2 C2
  refine ⟨by omega, fun h3 e3 => ⟨by omega, fun h4 e4 => ?_⟩⟩
  subst e4 e3
  exact ⟨3, rfl, k _ K.1 K.2⟩
theorem beh_sq0 (M : MS X h0 h i p (q ++ (32, 0) :: P) dep) (hq : ∀ e ∈ q, 5 ≤ zbin e.1) (hb : bop (X.c i) = -1) (hc : X.c i ≠ 93) (K : BadK X h0 Q i) : LE d b Q test 3 h := by
  have q24 : ∀ e ∈ q, e.1 ≤ 30 := fun e he => zbin_1 (by have := hq e he; omega)
  refine LE_sum M.ok (beh_no M hb ?_)
  rw [show inn (q ++ (32, 0) :: P) = 32 from inn_app q24]
  refine l_X8_behindSum_102 ⟨fun _ => ?_, fun z => absurd rfl z⟩
  rw [b2i_f (fun z => hc ((M.tk.2.2.2.sg (by decide)).mp z))]
  refine must_0 M.ok ⟨rfl, fun z => ?_, fun _ => ⟨3, rfl, LE_bad' M K⟩⟩
  rw [gi_nk (by decide), gi_eq] at z
  omega
/-- behind a test -/
theorem bt_no (M : MS X h0 h i p P dep) (hc : X.c i ≠ 286 ∧ X.c i ≠ 285) (K : (inn P = -1 → Q (some (vI 4)) h) ∧ (¬ inn P = -1 → WM GM (d + 2) 0 mX8_must [vR (some 0), vI (b2i (gi h 0 16 = 3 ∧ gl h 0 17 = 41))] h (fun r h1 => r = none ∧ (gi h1 0 19 = 0 → WM GM (d + 2) 0 mX8_settle [vR (some 0), vI 1] h1 (fun r h2 => r = none ∧ R32 ((gi h2 0 29) - 1) ∧ ∀ h3, h3 = si h2 0 29 ((gi h2 0 29) - 1) → R32 ((gi h2 0 30) - 1) ∧ ∀ h4, h4 = si h3 0 30 ((gi h2 0 30) - 1) → Q (some (vI 2)) h4)) ∧ (¬(gi h1 0 19 = 0) → Q (some (vI 2)) h1)))) : WM GM (d + 3) b mX8_behindTest [vR (some 0)] h Q := by
  have T := M.tk.2.2.2
  have n := pileN M
  refine w_X8_behindTest ?_
  rw [b2i_f (show ¬ (gi h 0 16 = 1 ∧ gl h 0 17 = 1476) from fun z => hc.1 ((T.wd 28 (by decide)).mp z))]
  refine l_X8_behindTest_8 ⟨fun _ => ⟨fun z => absurd ((T.wd 27 (by decide)).mp z) hc.2, fun _ => ⟨n.2, ?_⟩⟩, fun z => absurd rfl z⟩
  rw [n.1, innF_eq M.m0.pm.2]
  exact K
theorem bt_rd (L : LxOK X) (M : MS X h0 h i p (q ++ (31, 0) :: P) dep) (hd : 1 ≤ dep) (hq : ∀ e ∈ q, 1 ≤ zbin e.1) (hc : X.c i = 41) (k : ∀ h', MS X h0 h' (i + 1) p P (dep - 1) → codeH h' = flu q (codeH h) → LE d b Q test 2 h') : LE d b Q test 2 h := by
  have q30 : ∀ e ∈ q, e.1 ≤ 30 := fun e he => zbin_1 (hq e he)
  have e := (M.tk.2.2.2.sg (s := 41) (by decide)).mpr hc
  refine LE_tst M.ok (bt_no M (by omega) ⟨fun z => ?_, fun _ => ?_⟩)
  · rw [show inn (q ++ (31, 0) :: P) = 31 from inn_app q30] at z
    omega
  refine must_1 L M.tp' M.ok M.tk (by omega) (by rw [b2i_t e]; decide) (fun h1 F1 t1 => ⟨rfl, fun _ => ?_, fun z => absurd ((F1.1 _ _ (by omega)).trans M.ok) z⟩)
  have l1 := L.lt M.tk.1 (show X.c i ≠ -1 by omega)
  have l2 := L.m1
  have M1 := M.m0.frN F1 (j := i + 1) ⟨by omega, by omega⟩
  refine c_set M1 (by show zbin 31 < 1; decide) (by decide) hq (fun h2 F2 M2 C2 => ⟨rfl, ?_⟩)
  have pm := M2.pm.1
  have ln := M2.ln
  rw [List.length_cons] at pm ln
  have dp : gi h2 0 30 = dep := (F2.1 _ _ (by omega)).trans ((F1.1 _ _ (by omega)).trans M.dp)
  have d0 := M.d0
  have K := close_MS L M hd (Or.inl rfl) F1 t1 F2 M2 C2
  refine ⟨by omega, fun h3 e3 => ⟨by omega, fun h4 e4 => ?_⟩⟩
  subst e4 e3
  exact ⟨2, rfl, k _ K.1 K.2⟩
theorem bt_rd0 (M : MS X h0 h i p (q ++ (31, 0) :: P) dep) (hq : ∀ e ∈ q, 1 ≤ zbin e.1) (hc : X.c i ≠ 286 ∧ X.c i ≠ 285 ∧ X.c i ≠ 41) (K : BadK X h0 Q i) : LE d b Q test 2 h := by
  have q30 : ∀ e ∈ q, e.1 ≤ 30 := fun e he => zbin_1 (hq e he)
  refine LE_tst M.ok (bt_no M ⟨hc.1, hc.2.1⟩ ⟨fun z => ?_, fun _ => ?_⟩)
  · rw [show inn (q ++ (31, 0) :: P) = 31 from inn_app q30] at z
    omega
  rw [b2i_f (fun z => hc.2.2 ((M.tk.2.2.2.sg (by decide)).mp z))]
  refine must_0 M.ok ⟨rfl, fun z => ?_, fun _ => ⟨2, rfl, LE_bad' M K⟩⟩
  rw [gi_nk (by decide), gi_eq] at z
  omega
end CLOSE
