/-! PARTS read; what goes wrong -/
section TOF
variable {X : Txt} {lo hi dep i p i1 p1 i2 p2 j o a lv : Int} {x y : Vl}
/-- a part is read: what it means -/
def PtOk (X : Txt) (i o a i1 : Int) : Prop :=
  (rpN X i ∧ o = 0 ∧ a = X.v i ∧ i1 = i + 1) ∨ (¬ rpN X i ∧ ptF X.mode (X.c i) = o ∧ o ≠ -1 ∧ (X.mode = 0 ∨ o < 5) ∧ a = 0 ∧ i1 = i + 1) ∨ (¬ rpN X i ∧ ptF X.mode (X.c i) = o ∧ 5 ≤ o ∧ X.mode = 1 ∧ X.c (i + 1) = 256 ∧ X.v (i + 1) ≤ 7 ∧ a = X.v (i + 1) ∧ i1 = i + 2)
theorem v_R (L : LxOK X) {h0 h : AH} {P : List (Int × Int)} (M : MS X h0 h i p P dep) (hc : X.c i = 256) : 0 ≤ X.v i := by
  have w := M.tk.2.2.2.2.2.2.1 hc
  unfold nuR at w
  omega
theorem ptF_lim {mode c : Int} (hm : mode = 0 ∨ mode = 1) : ptF mode c ≤ lim (mX mode) := by
  unfold lim mX ptF
  rcases hm with hm | hm <;> subst hm
  · rw [if_pos rfl, if_pos rfl, if_pos rfl]
    split <;> omega
  · rw [if_neg (show ¬ (1 : Int) = 0 by decide), if_neg (show ¬ (1 : Int) = 0 by decide), if_neg (show ¬ (37 : Int) = 10 by decide)]
    (repeat' split) <;> omega
theorem ToS.leaf (L : LxOK X) (hm : X.mode = 0 ∨ X.mode = 1) (hc : X.c i ≠ 91) (hp : p < 50) (H : PtOk X i o a i1) : ToS X 7 7 dep i p i1 (p + 1) (vLf (fiX X.mode) o a) := by
  intro d b Q test g0 h P t M hP hI hT K
  unfold TurnOk at hT
  rw [if_neg (by decide)] at hT
  have fin : ∀ (h1 : AH) (o a : Int), 0 ≤ o ∧ o ≤ lim (mX X.mode) → okA (mX X.mode) o a → i1 = i + 1 → MS X g0 h1 i1 (p + 1) P dep → codeH h1 = (up1 (gi h 11) (gi h 0 23) o, up1 (gi h 12) (gi h 0 23) a, gi h 0 23 + 1) → (∀ h' q, MS X g0 h' i1 (p + 1) (q ++ P) dep → (∀ e ∈ q, 7 ≤ zbin e.1) → nJ q (gi h 0 23) → Ext (codeH h) (codeH h') → MMc X.mode (flu q (codeH h')) (gi h 0 23) (vLf (fiX X.mode) o a) → LE d b Q test (t1Of 7) h') → LE d b Q test 3 h1 := fun h1 o a ho ha e1 M1 C1 K => by
    refine K h1 [] M1 (fun _ z => by cases z) nJ.nil ?_ ?_
    · rw [C1]
      exact ⟨by dsimp only [codeH]; omega, fun z hz => ⟨up1_ne (by dsimp only [codeH] at hz; omega), up1_ne (by dsimp only [codeH] at hz; omega)⟩⟩
    · show MMc X.mode (codeH h1) _ _
      rw [C1]
      exact MM.leaf M.m0.k0 up1_eq up1_eq ho ha
  have R := ptF_R X.mode (X.c i)
  have R2 := ptF_lim (c := X.c i) hm
  have R3 := lim_R (mX X.mode)
  refine LE_part M hT (fun d' => rp_go M hc hm (fun n => ?_) (fun n n1 => ?_) (fun n n1 => ?_))
  · rcases H with ⟨_, h2, h3, h4⟩ | ⟨h1, _⟩ | ⟨h1, _⟩
    rotate_left
    · exact absurd n h1
    · exact absurd n h1
    subst h2 h3 h4
    have v0 := v_R L M n.1
    have n2 := n.2
    have n1 := n.1
    refine c_leaf L M (by decide) hp (by omega) (fun h1 M1 C1 => ⟨rfl, ?_⟩)
    have F := fin h1 0 (X.v i) (by omega) (by omega) rfl M1 C1 K
    exact l_X8_readPart_102 ⟨fun _ => ⟨3, rfl, F⟩, fun _ => ⟨fun _ => ⟨3, rfl, F⟩, fun z => by omega⟩⟩
  · rcases H with ⟨h1, _⟩ | ⟨_, h2, h3, h4, h5, h6⟩ | ⟨_, h2, h3, h4, h5, h6, h7, h8⟩
    · exact absurd h1 n
    · subst h5 h6
      rw [h2]
      refine c_leaf L M (by decide) hp (by omega) (fun h1 M1 C1 => ⟨rfl, ?_⟩)
      have F := fin h1 o 0 (by omega) (by omega) rfl M1 C1 K
      have e20 : gi h1 0 20 = X.mode := M1.tp'.2.2.1
      exact l_X8_readPart_102 ⟨fun _ => ⟨3, rfl, F⟩, fun _ => ⟨fun _ => ⟨3, rfl, F⟩, fun z => by omega⟩⟩
    · subst h7 h8
      rw [h2]
      refine c_leaf L M (by decide) hp (by omega) (fun h1 M1 C1 => ⟨rfl, ?_⟩)
      have e20 : gi h1 0 20 = X.mode := M1.tp'.2.2.1
      have k1 : gi h1 0 23 = gi h 0 23 + 1 := congrArg (fun C : Cd => C.2.2) C1
      have k0 := M.m0.k0
      have kc := M1.m0.cd
      have i4 := M1.m0.i4
      have c0 := cnt_0 P
      have v0 := v_R L M1 h5
      refine l_X8_readPart_102 ⟨fun z => by omega, fun _ => ⟨fun z => by omega, fun _ => ⟨fun _ => ⟨by omega, c_num1 L M1 h5 ⟨v0, h6⟩ (by decide) (fun h2 F2 t2 => ⟨_, rfl, by omega, fun h3 e3 => ⟨3, rfl, ?_⟩⟩)⟩, fun z => absurd M1.ok z⟩⟩⟩
      have l1 := L.lt M1.tk.1 (show X.c (i + 1) ≠ -1 by omega)
      have l2 := L.m1
      have M2 := M1.m0.frN F2 (j := i + 1 + 1) ⟨by omega, by omega⟩
      rw [k1, show gi h 0 23 + 1 - 1 = gi h 0 23 by omega] at e3
      have g : ∀ x : Int, x ≠ 14 → x ≠ 15 → x ≠ 16 → gi h3 0 x = gi h1 0 x := fun x a1 a2 a3 => by rw [e3, gi_no (by decide)]; exact F2.1 _ _ (by omega)
      have C3 : codeH h3 = (up1 (gi h 11) (gi h 0 23) o, up1 (gi h 12) (gi h 0 23) (X.v (i + 1)), gi h 0 23 + 1) := by
        have C2 := F2.code.trans C1
        rw [e3]
        unfold codeH at C2 ⊢
        have f11 : gi h2 11 = up1 (gi h 11) (gi h 0 23) o := congrArg (fun C : Cd => C.1) C2
        have f12 : gi h2 12 = up1 (gi h 12) (gi h 0 23) 0 := congrArg (fun C : Cd => C.2.1) C2
        have f23 : gi h2 0 23 = gi h 0 23 + 1 := congrArg (fun C : Cd => C.2.2) C2
        rw [giF_no (show (11 : Nat) ≠ 12 by decide), giF_eq, gi_no (by decide), f11, f12, f23, up1_up1]
      have ei : i + 2 = i + 1 + 1 := by omega
      rw [ei] at K
      refine K h3 [] ⟨?_, (g 19 (by decide) (by decide) (by decide)).trans M1.ok, ?_, (g 26 (by decide) (by decide) (by decide)).trans M1.lv, M1.p0, (g 30 (by decide) (by decide) (by decide)).trans M1.dp, M1.d0, M1.tp⟩ (fun _ z => by cases z) nJ.nil ?_ ?_
      · rw [e3]
        exact ⟨M2.pm.mk' (gi_no (by decide)) (fun x => gi_no (by decide)) (fun x => gi_no (by decide)), M2.pe, M2.ln, M2.i4, by rw [gi_no (by decide)]; exact M2.k0, by rw [gi_no (by decide)]; exact M2.cd, M2.fr.si (by omega)⟩
      · rw [e3]
        exact t2.fr (gi_no (by decide)) ⟨gi_no (by decide), gi_no (by decide)⟩ (gi_no (by decide)) rfl
      · rw [C3]
        exact ⟨by dsimp only [codeH]; omega, fun z hz => ⟨up1_ne (by dsimp only [codeH] at hz; omega), up1_ne (by dsimp only [codeH] at hz; omega)⟩⟩
      · show MMc X.mode (codeH h3) _ _
        rw [C3]
        exact MM.leaf M.m0.k0 up1_eq up1_eq (by omega) (by omega)
  · exfalso
    rcases H with ⟨h1, _⟩ | ⟨_, h2, h3, _⟩ | ⟨_, h2, h3, _⟩
    · exact n h1
    · omega
    · omega
theorem ToF.part0 (L : LxOK X) (hm : X.mode = 0 ∨ X.mode = 1) (hc : X.c i ≠ 91) (H : 50 ≤ p ∨ (¬ rpN X i ∧ ptF X.mode (X.c i) = -1)) : ToF X 7 dep i p i := by
  intro d b Q test g0 h P t M hP hI hT K
  unfold TurnOk at hT
  rw [if_neg (by decide)] at hT
  have B := LE_bad' (d := d) (b := b) (test := test) (t := 3) M K
  have e : ∀ (d' : Nat) (v : Int), Lp_X8_readPart_102 d' 0 (fun r h' => ∃ u, r = some (vI u) ∧ LE d b Q test u h') v (si (si h 0 19 1) 0 18 (gi h 0 14)) := fun d' v => l_X8_readPart_102 ⟨fun _ => ⟨3, rfl, B⟩, fun _ => ⟨fun _ => ⟨3, rfl, B⟩, fun _ => ⟨fun z => absurd z (by rw [gi_nk (by decide), gi_eq]; decide), fun _ => ⟨3, rfl, B⟩⟩⟩⟩
  refine LE_part M hT (fun d' => rp_go M hc hm (fun n => ?_) (fun n n1 => ?_) (fun n n1 => ?_))
  · refine c_leaf0 M ?_ ⟨rfl, e _ _⟩
    rcases H with z | z
    · exact Or.inr ⟨rfl, z⟩
    · exact absurd n z.1
  · refine c_leaf0 M ?_ ⟨rfl, e _ _⟩
    rcases H with z | z
    · exact Or.inr ⟨rfl, z⟩
    · exact absurd z.2 n1
  · exact c_leaf0 M (Or.inl rfl) ⟨rfl, e _ _⟩
theorem ToF.partD (L : LxOK X) (hm : X.mode = 1) (hc : X.c i ≠ 91) (hp : p < 50) (hn : ¬ rpN X i) (h5 : 5 ≤ ptF X.mode (X.c i)) (H : ¬ (X.c (i + 1) = 256 ∧ X.v (i + 1) ≤ 7)) : ToF X 7 dep i p (i + 1) := by
  intro d b Q test g0 h P t M hP hI hT K
  unfold TurnOk at hT
  rw [if_neg (by decide)] at hT
  have R := ptF_R X.mode (X.c i)
  refine LE_part M hT (fun d' => rp_go M hc (Or.inr hm) (fun n => absurd n hn) (fun n n1 => ?_) (fun n n1 => by omega))
  refine c_leaf L M (by decide) hp (by omega) (fun h1 M1 C1 => ⟨rfl, ?_⟩)
  have e20 : gi h1 0 20 = X.mode := M1.tp'.2.2.1
  have k1 : gi h1 0 23 = gi h 0 23 + 1 := congrArg (fun C : Cd => C.2.2) C1
  have k0 := M.m0.k0
  have kc := M1.m0.cd
  have i4 := M1.m0.i4
  have c0 := cnt_0 P
  refine l_X8_readPart_102 ⟨fun z => by omega, fun _ => ⟨fun z => by omega, fun _ => ⟨fun _ => ⟨by omega, c_num0 M1 (fun z => H ⟨z.1, z.2.2⟩) (by decide) (fun u => ⟨_, rfl, by omega, fun h3 e3 => ⟨3, rfl, ?_⟩⟩)⟩, fun z => absurd M1.ok z⟩⟩⟩
  subst e3
  have M2 := M1.m0
  refine LE_bad (i := i + 1) (j := i + 1) (P := P) ⟨M2.pm.mk' (by rw [gi_no (by decide), gi_nk (by decide), gi_nk (by decide)]) (fun x => by rw [gi_no (by decide), gi_no (by decide), gi_no (by decide)]) (fun x => by rw [gi_no (by decide), gi_no (by decide), gi_no (by decide)]), M2.pe, M2.ln, M2.i4, by rw [gi_no (by decide), gi_nk (by decide), gi_nk (by decide)]; exact M2.k0, by rw [gi_no (by decide), gi_nk (by decide), gi_nk (by decide)]; exact M2.cd, ((M2.fr.si (by omega)).si (by omega)).si (by omega)⟩ ?_ ?_ K
  · rw [gi_no (by decide), gi_nk (by decide), gi_eq]
  · rw [gi_no (by decide), gi_eq]
    exact M1.tk.2.1
theorem ToF.sq0 (hc : X.c i = 91) (hd : ¬ dep < 8) : ToF X 7 dep i p i := by
  intro d b Q test g0 h P t M hP hI hT K
  have T := M.tk.2.2.2
  unfold TurnOk at hT
  rw [if_neg (by decide)] at hT
  exact LE_part M hT (fun d' => w_X8_readPart ⟨fun _ => c_open0 M hd ⟨rfl, 1, rfl, LE_bad' M K⟩, fun z => absurd ((T.sg (by decide)).mpr hc) z⟩)
theorem ToF.sq1 (L : LxOK X) (hc : X.c i = 91) (hd : dep < 8) (H : ToF X 5 (dep + 1) (i + 1) p j) : ToF X 7 dep i p j := by
  intro d b Q test g0 h P t M hP hI hT K
  have T := M.tk.2.2.2
  unfold TurnOk at hT
  rw [if_neg (by decide)] at hT
  refine LE_part M hT (fun d' => w_X8_readPart ⟨fun _ => c_open L M hd (by omega) (Or.inr rfl) (fun h1 M1 C1 => ⟨rfl, 1, rfl, ?_⟩), fun z => absurd ((T.sg (by decide)).mpr hc) z⟩)
  exact H d b Q test g0 h1 ((32, 0) :: P) 1 M1 (by show zbin 32 < 5; decide) (fun z => by omega) (by unfold TurnOk; rw [if_neg (by decide)]; exact Or.inl rfl) K
theorem ToF.sq2 (L : LxOK X) (hc : X.c i = 91) (hd : dep < 8) (H : ToS X 5 5 (dep + 1) (i + 1) p i1 p1 x) (hb : bop (X.c i1) = -1) (hc1 : X.c i1 ≠ 93) : ToF X 7 dep i p i1 := by
  intro d b Q test g0 h P t M hP hI hT K
  have T := M.tk.2.2.2
  unfold TurnOk at hT
  rw [if_neg (by decide)] at hT
  refine LE_part M hT (fun d' => w_X8_readPart ⟨fun _ => c_open L M hd (by omega) (Or.inr rfl) (fun h1 M1 C1 => ⟨rfl, 1, rfl, ?_⟩), fun z => absurd ((T.sg (by decide)).mpr hc) z⟩)
  exact H d b Q test g0 h1 ((32, 0) :: P) 1 M1 (by show zbin 32 < 5; decide) (fun z => by omega) (by unfold TurnOk; rw [if_neg (by decide)]; exact Or.inl rfl) (fun h2 q M2 E2 J2 X2 V2 => beh_sq0 M2 E2 hb hc1 K)
theorem ToF.bin (L : LxOK X) (ho : 20 ≤ o ∧ o ≤ 24) (hlv : zbin o = lv) (H1 : ToS X lv lv dep i p i1 p1 x) (hc : X.c i1 = sgO o) (H2 : ToF X (lv + 1) dep (i1 + 1) p1 j) : ToF X lv dep i p j := by
  intro d b Q test h0 h P t M hP hI hT K
  have z5 := zbin_op ho
  refine H1 d b Q test h0 h P t M hP hI hT (fun h1 q M1 E1 J1 X1 V1 => ?_)
  rw [t1_3 (by omega)]
  have k0 := M1.m0.k0
  refine LE_sum M1.ok (beh_sel M1.tk.2.2.2 ?_)
  rw [bop_sg ho hc]
  refine l_X8_behindSum_72 ⟨fun z => by omega, fun _ => ?_⟩
  rw [hlv]
  refine c_set M1.m0 hP (by omega) E1 (fun h2 F2 M2 C2 => ⟨rfl, ?_⟩)
  have pm := M2.pm.1
  have ln := M2.ln
  have l1 := L.lt M1.tk.1 (sgO_c (by omega) hc)
  have l2 := L.m1
  refine ⟨by omega, fun h3 e3 => ?_⟩
  replace e3 : h3 = psh h2 o 0 := e3
  subst e3
  have M3 := M2.pshK (o := o) (a := 0) (by omega) (by omega)
  refine next_T L (M.tp.fr M3.fr) ((M1.tk.frT F2).pshK) (sgO_c (by omega) hc) (fun h4 F4 T4 => ⟨rfl, 1, rfl, ?_⟩)
  have M4 := M3.frN F4 (j := i1 + 1) ⟨Int.le_refl _, by omega⟩
  refine H2 d b Q test h0 h4 ((o, 0) :: P) 1 ⟨M4, ?_, T4, ?_, M1.p0, ?_, M1.d0, M1.tp⟩ (by show zbin o < _; omega) (fun z => by omega) (by unfold TurnOk; rw [if_neg (by omega)]; exact Or.inl rfl) K
  · rw [F4.1 _ _ (by omega), psh_gi (by decide), F2.1 _ _ (by omega)]
    exact M1.ok
  · rw [F4.1 _ _ (by omega), psh_gi (by decide), F2.1 _ _ (by omega)]
    exact M1.lv
  · rw [F4.1 _ _ (by omega), psh_gi (by decide), F2.1 _ _ (by omega)]
    exact M1.dp
theorem ToF.cmpA (h0 : X.c i ≠ 287 ∧ X.c i ≠ 40) (H : ToF X 5 dep i p j) : ToF X 4 dep i p j := by
  intro d b Q test g0 h P t M hP hI hT K
  exact H d b Q test g0 h P t M (by omega) (fun z => by omega) (Turn45 hT h0) K
theorem ToF.cmp1 (h0 : X.c i ≠ 287 ∧ X.c i ≠ 40) (H1 : ToS X 5 5 dep i p i1 p1 x) (hb : bop (X.c i1) = -1) (hc : X.c i1 ≠ 60 ∧ X.c i1 ≠ 62 ∧ X.c i1 ≠ 61) : ToF X 4 dep i p i1 := by
  intro d b Q test g0 h P t M hP hI hT K
  refine H1 d b Q test g0 h P t M (by omega) (fun z => by omega) (Turn45 hT h0) (fun h1 q M1 E1 J1 X1 V1 => ?_)
  have hI' := hI (by decide)
  have q24 := ops24 M1.m0 E1
  have in1 := inn24 M1.m0 (fun e he => by have := E1 e he; omega)
  refine LE_sum M1.ok (beh_no M1 hb (beh_cmp M1 (MSq M1 in1 hI') (fun _ => ?_) (fun z => ?_)))
  rotate_left
  · rw [cmp_app q24, cmp0 M.m0 hP] at z
    exact absurd rfl z
  exact beh_cm0 M1 hc ⟨1, rfl, LE_bad' M1 K⟩
theorem ToF.cmp2 (L : LxOK X) (ho : 25 ≤ o ∧ o ≤ 27) (h0 : X.c i ≠ 287 ∧ X.c i ≠ 40) (H1 : ToS X 5 5 dep i p i1 p1 x) (hc : X.c i1 = sgO o) (H2 : ToF X 5 dep (i1 + 1) p1 j) : ToF X 4 dep i p j := by
  intro d b Q test g0 h P t M hP hI hT K
  have z4 := zbin_cm ho
  refine H1 d b Q test g0 h P t M (by omega) (fun z => by omega) (Turn45 hT h0) (fun h1 q M1 E1 J1 X1 V1 => ?_)
  have hI' := hI (by decide)
  have q24 := ops24 M1.m0 E1
  have in1 := inn24 M1.m0 (fun e he => by have := E1 e he; omega)
  refine LE_sum M1.ok (beh_no M1 (by rw [hc]; exact z4.2) (beh_cmp M1 (MSq M1 in1 hI') (fun _ => ?_) (fun z => ?_)))
  rotate_left
  · rw [cmp_app q24, cmp0 M.m0 hP] at z
    exact absurd rfl z
  refine beh_cm L M1 ho hc (fun h2 F2 t2 => ?_)
  have l1 := L.lt M1.tk.1 (sgO_c (by omega) hc)
  have l2 := L.m1
  have M2 := M1.m0.frN F2 (j := i1) ⟨Int.le_refl _, M1.m0.i4⟩
  refine c_set M2 (show topB P < 5 by omega) (by decide) E1 (fun h3 F3 M3 C3 => ⟨rfl, ?_⟩)
  have pm := M3.pm.1
  have ln := M3.ln
  have t1 := M1.tk.1
  refine ⟨by omega, fun h4 e4 => ⟨1, rfl, ?_⟩⟩
  subst e4
  have M4 := M3.pshK (o := o) (a := 0) (by omega) (by omega)
  have g : ∀ z : Int, z ≠ 14 → z ≠ 15 → z ≠ 16 → z ≠ 23 → z ≠ 29 → gi (psh h3 o 0) 0 z = gi h1 0 z := fun z a1 a2 a3 a4 a5 => (psh_gi a5).trans ((F3.1 _ _ (by omega)).trans (F2.1 _ _ (by omega)))
  exact H2 d b Q test g0 (psh h3 o 0) ((o, 0) :: P) 1 ⟨M4, (g 19 (by decide) (by decide) (by decide) (by decide) (by decide)).trans M1.ok, (t2.frT F3).pshK, (g 26 (by decide) (by decide) (by decide) (by decide) (by decide)).trans M1.lv, M1.p0, (g 30 (by decide) (by decide) (by decide) (by decide) (by decide)).trans M1.dp, M1.d0, M1.tp⟩ (by show zbin o < _; omega) (fun z => by omega) (by unfold TurnOk; rw [if_neg (by decide)]; exact Or.inl rfl) K
theorem rd_go (L : LxOK X) {d b : Nat} {Q : Option AV → AH → Prop} {test : Int} {g0 h : AH} {P : List (Int × Int)} (M : MS X g0 h i p P dep) (hc : X.c i = 40) (hd : dep < 8) (K : ∀ h1, MS X g0 h1 (i + 1) p ((31, 0) :: P) (dep + 1) → LE d b Q test 0 h1) : LE d b Q test 0 h := by
  have T := M.tk.2.2.2
  refine LE_plain M.ok (w_X8_readPlain ⟨fun z => ?_, fun _ => ⟨fun _ => c_open L M hd (by omega) (Or.inl rfl) (fun h1 M1 C1 => ⟨rfl, 0, rfl, K h1 M1⟩), fun z => absurd ((T.sg (by decide)).mpr hc) z⟩⟩)
  have := (T.wd 29 (by decide)).mp z
  omega
theorem ToF.rd0 (hc : X.c i = 40) (hd : ¬ dep < 8) : ToF X 4 dep i p i := by
  intro d b Q test g0 h P t M hP hI hT K
  have T := M.tk.2.2.2
  unfold TurnOk at hT
  rw [if_pos (by decide)] at hT
  subst hT
  refine LE_plain M.ok (w_X8_readPlain ⟨fun z => ?_, fun _ => ⟨fun _ => c_open0 M hd ⟨rfl, 0, rfl, LE_bad' M K⟩, fun z => absurd ((T.sg (by decide)).mpr hc) z⟩⟩)
  have := (T.wd 29 (by decide)).mp z
  omega
theorem ToF.rd1 (L : LxOK X) (hc : X.c i = 40) (hd : dep < 8) (H : ToF X 1 (dep + 1) (i + 1) p j) : ToF X 4 dep i p j := by
  intro d b Q test g0 h P t M hP hI hT K
  unfold TurnOk at hT
  rw [if_pos (by decide)] at hT
  subst hT
  exact rd_go L M hc hd (fun h1 M1 => H d b Q test g0 h1 ((31, 0) :: P) 0 M1 (by show zbin 31 < 1; decide) (fun _ => Or.inl rfl) (by unfold TurnOk; rw [if_pos (by decide)]) K)
theorem ToF.rd2 (L : LxOK X) (hc : X.c i = 40) (hd : dep < 8) (H : ToS X 1 1 (dep + 1) (i + 1) p i1 p1 x) (hc1 : X.c i1 ≠ 286 ∧ X.c i1 ≠ 285 ∧ X.c i1 ≠ 41) : ToF X 4 dep i p i1 := by
  intro d b Q test g0 h P t M hP hI hT K
  unfold TurnOk at hT
  rw [if_pos (by decide)] at hT
  subst hT
  exact rd_go L M hc hd (fun h1 M1 => H d b Q test g0 h1 ((31, 0) :: P) 0 M1 (by show zbin 31 < 1; decide) (fun _ => Or.inl rfl) (by unfold TurnOk; rw [if_pos (by decide)]) (fun h2 q M2 E2 J2 X2 V2 => bt_rd0 M2 E2 hc1 K))
end TOF
