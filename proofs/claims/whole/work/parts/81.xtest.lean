/-! the class reads: tests -/
section XTST
variable {X : Txt} {z : Int} {h0 : AH} {dep : Int}
def vT (t : Int) (x : Vl) : Vl := if t = 0 then x else vNot x
theorem lp_plain154 {d b : Nat} {Q : Option AV → AH → Prop} {h h' : AH} {t i p ln i' p' ln' : Int} {x : Vl} (H : XP X z h0 h' i' p' ln') (hr : i < i' ∧ p < p' ∧ ln < ln' ∧ ln' ≤ ln + 2 * (i' - i) ∧ (t ≠ 0 → ln' + 2 ≤ ln + 2 * (i' - i))) (hl : ln ≤ 2 * i + z) (hk : ∀ k, k < ln → gi h' 37 k = gi h 37 k) (xs : XS (mX X.mode) (gi h' 37) ln ln' (p' - p) x) (t01 : T01 (mX X.mode) x) (ts : ToS X 3 4 dep i p i' p' (vT t x))
    (K : ∀ h' i' p' ln' x, ROk X z h0 h 3 4 dep i p ln h' i' p' ln' x → T01 (mX X.mode) x → Q (some (vI 1)) h') : Lp_X3_plain_151 d b Q t h' := by
  refine l_X3_plain_151 ⟨fun c => ?_, fun c => ⟨H.preL, fun h1 e1 => ?_⟩⟩
  · unfold vT at ts
    rw [if_pos c] at ts
    exact K h' i' p' ln' x ⟨H, by omega, hk, xs, VB.of01 t01, ts⟩ t01
  · subst e1
    unfold vT at ts
    rw [if_neg c] at ts
    have q := hr.2.2.2.2 c
    have B := H.add 3 0 (by omega)
    have x1 := XS.not (xs.congr (fun k k0 k1 => B.2.1 k k1)) B.2.2.1 B.2.2.2
    exact K _ i' p' (ln' + 2) (vNot x) ⟨B.1, by omega, fun k k1 => (B.2.1 k (by omega)).trans (hk k k1), x1, VB.of01 t01.not, ts⟩ t01.not
theorem cm_of {c : Int} (h : c = 60 ∨ c = 62 ∨ c = 61) : ∃ o, (25 ≤ o ∧ o ≤ 27) ∧ c = sgO o := by
  rcases h with h | h | h <;> subst h
  · exact ⟨25, by decide⟩
  · exact ⟨26, by decide⟩
  · exact ⟨27, by decide⟩
theorem lp_plain44 {D b : Nat} {Q : Option AV → AH → Prop} {h h' : AH} {t i p ln j : Int} (hd : 0 ≤ dep ∧ dep ≤ 8)
    (hS : SpX X z h0 mX3_sum [vR (some 31), vI dep] D 5 5 dep (fun c => bop c = -1) (fun _ => True)) (hT : dep < 8 → SpX X z h0 mX3_test [vR (some 31), vI (dep + 1)] D 1 1 (dep + 1) (fun c => c ≠ 286 ∧ c ≠ 285) (T01 (mX X.mode))) (e : Nat)
    (H : XP X z h0 h' j p ln) (h37 : gi h' 37 = gi h 37) (hij : 0 ≤ i ∧ i ≤ j ∧ (t ≠ 0 → i < j)) (hl : ln ≤ 2 * i + z) (hc : X.c j ≠ 287)
    (tS : ∀ i' p' x, ToS X 3 4 dep j p i' p' x → ToS X 3 4 dep i p i' p' (vT t x)) (tF : ∀ k, ToF X 4 dep j p k → ToF X 4 dep i p k)
    (kO : ∀ h' i' p' ln' x, ROk X z h0 h 3 4 dep i p ln h' i' p' ln' x → T01 (mX X.mode) x → Q (some (vI 1)) h') (kN : ∀ h', RNo X h0 4 dep i p h' → Q (some (vI 0)) h') : Lp_X3_plain_44 (D + e) b Q dep t h' := by
  have L := H.L
  have e5 := H.2.1
  have hi := H.2.2.2.2.1
  refine l_X3_plain_44 ?_
  rw [e5]
  refine ⟨fun c => ⟨fun c8 => ⟨H.pre, fun h2 e2 => ⟨by omega, ?_⟩⟩, fun c8 => kN h' ((RNo.at H (ToF.rd0 c c8)).toF tF)⟩, fun c => ?_⟩
  · subst e2
    have A := H.adv (by omega)
    refine hT c8 e 0 _ _ (j + 1) p ln A.1 (fun h3 i3 p3 ln3 x R st tt => ⟨1, rfl, fun y => by omega, fun _ => ?_⟩) (fun h3 R => ⟨0, rfl, fun _ => kN h3 ((R.toF (fun k F => ToF.rd1 L c c8 F)).toF tF), fun y => absurd rfl y⟩)
    rw [R.1.2.1]
    refine ⟨fun c4 => ⟨R.1.pre, fun h4 e4 => ?_⟩, fun c4 => kN h3 ((RNo.at R.1 (ToF.rd2 L c c8 R.2.2.2.2.2 ⟨st.1, st.2, c4⟩)).toF tF)⟩
    subst e4
    have B := R.1.adv (by omega)
    have r2 := R.2.1
    exact lp_plain154 (h := h) B.1 (by omega) hl (fun k k1 => by rw [B.2, R.2.2.1 k k1, A.2, h37]) (by rw [B.2]; exact R.2.2.2.1) tt (tS _ _ _ (ToS.rd L c c8 R.2.2.2.2.2 c4)) kO
  · refine hS e 0 _ _ j p ln H (fun h1 i1 p1 ln1 x R st _ => ⟨1, rfl, fun y => by omega, fun _ => ?_⟩) (fun h1 R => ⟨0, rfl, fun _ => kN h1 ((R.toF (fun k F => ToF.cmpA ⟨hc, c⟩ F)).toF tF), fun y => absurd rfl y⟩)
    rw [R.1.2.1]
    have r2 := R.2.1
    have go : (X.c i1 = 60 ∨ X.c i1 = 62 ∨ X.c i1 = 61) → Lp_X3_plain_128 (D + e) b Q dep t (X.c i1) h1 := fun cc => by
      obtain ⟨o, o1, o2⟩ := cm_of cc
      have A := R.1.adv (by omega)
      refine l_X3_plain_128 ⟨R.1.pre, fun h2 e2 => ?_⟩
      subst e2
      refine hS e 0 _ _ (i1 + 1) p1 ln1 A.1 (fun h3 i3 p3 ln3 y R3 st3 _ => ⟨1, rfl, fun y => by omega, fun _ => ⟨R3.1.preL, fun h4 e4 => ?_⟩⟩) (fun h3 R3 => ⟨0, rfl, fun _ => kN h3 ((R3.toF (fun k F => ToF.cmp2 L o1 ⟨hc, c⟩ R.2.2.2.2.2 o2 F)).toF tF), fun y => absurd rfl y⟩)
      subst e4
      have q2 := R3.2.1
      have B := R3.1.add (X.c i1) 0 (by omega)
      have q := XS.bin (m := mX X.mode) (s := gi (addX h3 (X.c i1) 0) 37) (o := o) (R.2.2.2.1.congr (fun k k0 k1 => by rw [B.2.1 k (by omega), R3.2.2.1 k k1, A.2])) (R3.2.2.2.1.congr (fun k k0 k1 => B.2.1 k k1)) (B.2.2.1.trans o2) B.2.2.2 (by omega)
      rw [show p1 - p + (p3 - p1) = p3 - p by omega] at q
      exact lp_plain154 (h := h) B.1 (by omega) hl (fun k k1 => by rw [B.2.1 k (by omega), R3.2.2.1 k (by omega), A.2, R.2.2.1 k k1, h37]) q (T01.cmp o1) (tS _ _ _ (ToS.cmp L o1 ⟨hc, c⟩ R.2.2.2.2.2 o2 R3.2.2.2.2.2 st3)) kO
    exact ⟨fun y => go (Or.inl y), fun y1 => ⟨fun y => go (Or.inr (Or.inl y)), fun y2 => ⟨fun y => go (Or.inr (Or.inr y)), fun y3 => kN h1 ((RNo.at R.1 (ToF.cmp1 ⟨hc, c⟩ R.2.2.2.2.2 st ⟨y1, y2, y3⟩)).toF tF)⟩⟩⟩
theorem lp_plain4 {D b : Nat} {Q : Option AV → AH → Prop} {h : AH} {i p ln : Int} (hd : 0 ≤ dep ∧ dep ≤ 8)
    (hS : SpX X z h0 mX3_sum [vR (some 31), vI dep] D 5 5 dep (fun c => bop c = -1) (fun _ => True)) (hT : dep < 8 → SpX X z h0 mX3_test [vR (some 31), vI (dep + 1)] D 1 1 (dep + 1) (fun c => c ≠ 286 ∧ c ≠ 285) (T01 (mX X.mode))) (e : Nat) (hl : 0 ≤ i ∧ ln ≤ 2 * i + z)
    (kO : ∀ h' i' p' ln' x, ROk X z h0 h 3 4 dep i p ln h' i' p' ln' x → T01 (mX X.mode) x → Q (some (vI 1)) h') (kN : ∀ h', RNo X h0 4 dep i p h' → Q (some (vI 0)) h') :
    ∀ (f : Nat) (n t j : Int) (h' : AH), X.m ≤ j + f → XP X z h0 h' j p ln → gi h' 37 = gi h 37 → (i ≤ j ∧ (t ≠ 0 → i < j)) → 0 ≤ n → n ≤ j - i → (t = 0 ∨ t = 1) → (∀ i' p' x, ToS X 3 4 dep j p i' p' x → ToS X 3 4 dep i p i' p' (vT t x)) → (∀ k, ToF X 4 dep j p k → ToF X 4 dep i p k) → Lp_X3_plain_4 (D + e) b Q dep t n h'
  | 0, n, t, j, h', hf, H, _, _, _, _, _, _, _ => by
    have := H.2.2.2.2.1
    omega
  | f + 1, n, t, j, h', hf, H, h37, hij, n0, n1, ht, tS, tF => by
    have L := H.L
    have m := L.m1
    have hi := H.2.2.2.2.1
    have e5 := H.2.1
    have cR := L.c_R hi
    by_cases c : X.c j = 287
    · have A := H.adv (by omega)
      have l1 := L.lt hi (show X.c j ≠ -1 by omega)
      have go : ∀ t2 : Int, (t2 = 0 ∨ t2 = 1) → (∀ x, vT t (vNot x) = vT t2 x) → Lp_X3_plain_4 (D + e) b Q dep t2 (n + 1) (advX h') := fun t2 b2 ev =>
        lp_plain4 hd hS hT e hl kO kN f (n + 1) t2 (j + 1) (advX h') (by omega) A.1 (A.2.trans h37) (by omega) (by omega) (by omega) b2 (fun i' p' x T => by rw [← ev]; exact tS i' p' _ (ToS.not L c T)) (fun k T => tF k (ToF.not L c T))
      refine l_X3_plain_4 ?_
      rw [e5]
      refine ⟨fun y => by omega, fun _ => ⟨by omega, fun _ => ⟨fun c0 => ⟨H.pre, fun h2 e2 => ⟨by omega, ?_⟩⟩, fun c0 => ⟨H.pre, fun h2 e2 => ⟨by omega, ?_⟩⟩⟩, fun y => by omega⟩⟩
      · subst e2
        exact go 1 (Or.inr rfl) (fun x => by unfold vT; rw [if_pos c0, if_neg (by decide)])
      · subst e2
        exact go 0 (Or.inl rfl) (fun x => by unfold vT; rw [if_neg c0, if_pos rfl, vNot_not])
    · have F := lp_plain44 (h := h) (b := b) (Q := Q) hd hS hT e H h37 ⟨hl.1, hij.1, hij.2⟩ hl.2 c tS tF kO kN
      refine l_X3_plain_4 ?_
      rw [e5]
      exact ⟨fun _ => F, fun _ => ⟨by omega, fun y => by omega, fun _ => F⟩⟩
theorem x_plain {D : Nat} (hd : 0 ≤ dep ∧ dep ≤ 8) (hS : SpX X z h0 mX3_sum [vR (some 31), vI dep] D 5 5 dep (fun c => bop c = -1) (fun _ => True)) (hT : dep < 8 → SpX X z h0 mX3_test [vR (some 31), vI (dep + 1)] D 1 1 (dep + 1) (fun c => c ≠ 286 ∧ c ≠ 285) (T01 (mX X.mode))) : SpX X z h0 mX3_plain [vR (some 31), vI dep] (D + 1) 3 4 dep (fun _ => True) (T01 (mX X.mode)) := by
  intro e b Q h i p ln H kO kN
  have hl := H.2.2.2.2.2.2.1
  have hi := H.2.2.2.2.1
  refine WM_d (show D + e + 1 = D + 1 + e by omega) (w_X3_plain ?_)
  exact lp_plain4 hd hS hT e ⟨hi.1, hl.2.2⟩ (fun h' i' p' ln' x R t => kO h' i' p' ln' x R True.intro t) kN (X.m - i).toNat 0 0 i h (by omega) H rfl ⟨Int.le_refl _, fun y => absurd rfl y⟩ (Int.le_refl _) (by omega) (Or.inl rfl) (fun i' p' x T => by unfold vT; rw [if_pos rfl]; exact T) (fun k T => T)
/-! the test's loop -/
section LND
variable {h h' : AH} {i p ln w v hi : Int}
theorem XP.si37 (H : XP X z h0 h i p ln) : XP X z h0 (si h 37 w v) i p ln := by
  obtain ⟨g1, g2, g3, g4, g5, g6, g7, g8, g9⟩ := H
  exact ⟨by rw [gi_no (by decide)]; exact g1, by rw [gi_no (by decide)]; exact g2, by rw [gi_no (by decide)]; exact g3, by rw [gi_no (by decide)]; exact g4, g5, g6, g7, g8.si (Or.inl rfl), g9⟩
theorem XP.lnd (H : XP X z h0 h i p ln) (hw : 0 ≤ w ∧ w < 872) : lndX h w = si h 37 w ln := by
  unfold lndX
  rw [if_pos hw, H.2.2.2.1]
theorem lnd_no : lndX h (-1) = h := if_neg (by decide)
theorem RNo.lnd (N : RNo X h0 hi dep i p h') : RNo X h0 hi dep i p (lndX h' w) := by
  unfold lndX
  split
  · obtain ⟨n1, n2, n3, n4⟩ := N
    exact ⟨n1.si (Or.inl rfl), by rw [gi_no (by decide)]; exact n2, by rw [gi_no (by decide)]; exact n3, by rw [gi_no (by decide)]; exact n4⟩
  · exact N
end LND
/-- a TEST so far: what is read, what it means -/
def TsF (X : Txt) (h : AH) (dep i p ln : Int) (hB : AH) (i' p' ln' : Int) (x : Vl) : Prop :=
  (i < i' ∧ p < p' ∧ ln < ln' ∧ ln' ≤ ln + 2 * (i' - i)) ∧ (∀ k, k < ln → gi hB 37 k = gi h 37 k) ∧ XS (mX X.mode) (gi hB 37) ln ln' (p' - p) x ∧ T01 (mX X.mode) x ∧ ToS X 1 1 dep i p i' p' x
/-- what stands ahead of the BOTH that is read; w: the place that the latest "or" keeps, -1: none -/
def CtT (X : Txt) (z : Int) (h0 h : AH) (dep i p ln w : Int) (hT : AH) (iT pT lT : Int) : Prop :=
  (w = -1 ∧ hT = h ∧ iT = i ∧ pT = p ∧ lT = ln) ∨ (∃ i1 l1 x, w = l1 + 1 ∧ iT = i1 + 1 ∧ lT = l1 + 2 ∧ X.c i1 = 285 ∧ XP X z h0 hT (i1 + 1) pT (l1 + 2) ∧ gi hT 37 l1 = 4 ∧ TsF X h dep i p ln hT i1 pT l1 x)
section CTT
variable {h h' hT hB : AH} {i p ln w iT pT lT i' p' ln' : Int} {y : Vl}
theorem CtT.bd (C : CtT X z h0 h dep i p ln w hT iT pT lT) (h1 : 0 ≤ ln) (hw : w ≠ -1) : 0 ≤ w ∧ w < 872 ∧ w + 1 = lT ∧ ln < w := by
  rcases C with ⟨c1, _⟩ | ⟨i1, l1, x, c1, c2, c3, c4, c5, c6, c7⟩
  · exact absurd c1 hw
  · have q1 := c7.1
    have m := c5.L.m1
    have q2 := c5.2.2.2.2.1
    have q3 := c5.2.2.2.2.2.2.1
    have zz := c5.2.2.2.2.2.2.2.2.2.2.2.2.2
    omega
theorem CtT.no (L : LxOK X) (C : CtT X z h0 h dep i p ln w hT iT pT lT) (R : RNo X h0 2 dep iT pT h') : RNo X h0 1 dep i p h' := by
  rcases C with ⟨c1, c2, c3, c4, c5⟩ | ⟨i1, l1, x, c1, c2, c3, c4, c5, c6, c7⟩
  · rw [c3, c4] at R
    exact R.mono (by decide) (by omega)
  · rw [c2] at R
    exact R.toF (fun j F => ToF.jmp (o := 30) (lv := 1) L (Or.inr rfl) (by decide) c7.2.2.2.2 (by rw [if_neg (by decide)]; exact c4) (by decide) F)
theorem CtT.close (L : LxOK X) (C : CtT X z h0 h dep i p ln w hT iT pT lT) (R : ROk X z h0 hT 2 2 dep iT pT lT h' i' p' ln' y) (ty : T01 (mX X.mode) y) (h1 : 0 ≤ ln) (hw : w ≠ -1) (k1 : ∀ k, k ≠ w → gi hB 37 k = gi h' 37 k) (k2 : gi hB 37 w = ln') : ∃ v, TsF X h dep i p ln hB i' p' ln' v := by
  have bd := C.bd h1 hw
  have b9 := R.1.2.2.2.2.2.2.1
  have i9 := R.1.2.2.2.2.1
  have m9 := L.m1
  have z9 := R.1.2.2.2.2.2.2.2.2.2.2.2.2.2
  rcases C with ⟨c1, _⟩ | ⟨i1, l1, x, c1, c2, c3, c4, c5, c6, t1, t2, t3, t4, t5⟩
  · exact absurd c1 hw
  subst c2 c3 c1
  have r2 := R.2.1
  refine ⟨vJmp (if (30 : Int) = 29 then 0 else 1) x y, by omega, fun k hk => by rw [k1 k (by omega), R.2.2.1 k (by omega), t2 k hk], ?_, T01.jmp t4 ty, ToS.jmp (o := 30) (lv := 1) L (Or.inr rfl) (by decide) t5 (by rw [if_neg (by decide)]; exact c4) (by decide) R.2.2.2.2.2⟩
  have q := XS.jmp (m := mX X.mode) (s := gi hB 37) (o := 30) (t3.congr (fun k a b => by rw [k1 k (by omega), R.2.2.1 k (by omega)])) (R.2.2.2.1.congr (fun k a b => k1 k (by omega))) (by rw [k1 _ (by omega), R.2.2.1 _ (by omega), c6, if_neg (by decide)]) k2 (by omega)
  rwa [show pT - p + (p' - pT) = p' - p by omega] at q
end CTT
theorem lp_test {D : Nat}
    (hP : ∀ (Q : Option AV → AH → Prop) (h : AH) (i p ln : Int), XP X z h0 h i p ln → (∀ h' i' p' ln' x, ROk X z h0 h 3 4 dep i p ln h' i' p' ln' x → T01 (mX X.mode) x → Q (some (vI 1)) h') → (∀ h', RNo X h0 4 dep i p h' → Q (some (vI 0)) h') → WM GX D 0 mX3_plain [vR (some 31), vI dep] h Q)
    {b : Nat} {Q : Option AV → AH → Prop} {h : AH} {i p ln : Int} (hz : 0 ≤ i ∧ 0 ≤ ln ∧ ln ≤ 2 * i + z)
    (kO : ∀ h' i' p' ln' x, ROk X z h0 h 1 1 dep i p ln h' i' p' ln' x → (X.c i' ≠ 286 ∧ X.c i' ≠ 285) → T01 (mX X.mode) x → Q (some (vI 1)) h') (kN : ∀ h', RNo X h0 1 dep i p h' → Q (some (vI 0)) h') :
    ∀ (f : Nat) (n w : Int) (hT : AH) (iT pT lT : Int) (h' : AH) (i' p' ln' : Int) (y : Vl), X.m ≤ i' + f → CtT X z h0 h dep i p ln w hT iT pT lT → ROk X z h0 hT 2 2 dep iT pT lT h' i' p' ln' y → T01 (mX X.mode) y → 0 ≤ n → 2 * n ≤ i' → Lp_X3_test_11 D b Q dep 1 w n h'
  | 0, n, w, hT, iT, pT, lT, h', i', p', ln', y, hf, C, R, _, _, _ => by
    have := R.1.2.2.2.2.1
    omega
  | f + 1, n, w, hT, iT, pT, lT, h', i', p', ln', y, hf, C, R, ty, n0, n2 => by
    have L := R.1.L
    have m := L.m1
    have hi := R.1.2.2.2.2.1
    have e5 := R.1.2.1
    have r2 := R.2.1
    have rl := R.1.2.2.2.2.2.2.1
    have zz := R.1.2.2.2.2.2.2.2.2.2.2.2.2.2
    have cR := L.c_R hi
    have dead : ∀ (w2 n2 : Int) (h2 : AH), 0 ≤ n2 ∧ n2 ≤ 1000 → RNo X h0 1 dep i p h2 → Lp_X3_test_141 D b Q dep 0 w2 n2 h2 := fun w2 n2 h2 hn N => by
      have e147 : Lp_X3_test_147 D b Q 0 w2 h2 := l_X3_test_147 (fun h3 e3 => ⟨Or.inl rfl, by subst e3; exact kN _ N.lnd⟩)
      exact l_X3_test_141 ⟨by omega, l_X3_test_11 ⟨fun _ => e147, fun _ => ⟨fun _ => e147, fun y => absurd rfl y⟩⟩⟩
    have stop : X.c i' ≠ 286 ∧ X.c i' ≠ 285 → Lp_X3_test_147 D b Q 1 w h' := fun sb => by
      refine l_X3_test_147 (fun h1 e1 => ⟨Or.inr rfl, ?_⟩)
      by_cases c : w = -1
      · rw [c, lnd_no] at e1
        subst e1
        rcases C with ⟨c1, c2, c3, c4, c5⟩ | ⟨i1, l1, x, c1, c2, c3, c4, c5, c6, c7⟩
        · rw [c2, c3, c4, c5] at R
          exact kO _ _ _ _ _ (R.mono (by decide) (by decide) (by omega)) sb ty
        · have := c7.1
          omega
      · have bd := C.bd hz.2.1 c
        rw [R.1.lnd ⟨bd.1, bd.2.1⟩] at e1
        subst e1
        obtain ⟨v, v1, v2, v3, v4, v5⟩ := C.close (hB := si h' 37 w ln') L R ty hz.2.1 c (fun k hk => gi_nk hk) gi_eq
        exact kO _ _ _ _ _ ⟨R.1.si37, v1, v2, v3, VB.of01 v4, v5⟩ sb v4
    have orB : X.c i' = 285 → Lp_X3_test_69 D b Q dep w n 1 h' := fun hc => by
      have A := R.1.adv (by omega)
      obtain ⟨h4, e4⟩ : ∃ h4, h4 = lndX (advX h') w := ⟨_, rfl⟩
      have F : XP X z h0 h4 (i' + 1) p' ln' ∧ ∃ v, TsF X h dep i p ln h4 i' p' ln' v := by
        by_cases c : w = -1
        · rw [c, lnd_no] at e4
          subst e4
          refine ⟨A.1, y, ?_⟩
          rcases C with ⟨c1, c2, c3, c4, c5⟩ | ⟨i1, l1, x, c1, c2, c3, c4, c5, c6, c7⟩
          · rw [c2, c3, c4, c5] at R
            have R' : ROk X z h0 h 1 1 dep i p ln h' i' p' ln' y := R.mono (by decide) (by decide) (by omega)
            exact ⟨R'.2.1, fun k hk => by rw [A.2, R'.2.2.1 k hk], by rw [A.2]; exact R'.2.2.2.1, ty, R'.2.2.2.2.2⟩
          · have := c7.1
            omega
        · have bd := C.bd hz.2.1 c
          rw [A.1.lnd ⟨bd.1, bd.2.1⟩] at e4
          subst e4
          exact ⟨A.1.si37, C.close L R ty hz.2.1 c (fun k hk => by rw [gi_nk hk, A.2]) gi_eq⟩
      obtain ⟨H4, v, v1, v2, v3, v4, v5⟩ := F
      have B := H4.add 4 0 (by omega)
      have e35 : gi h4 35 2 = ln' := H4.2.2.2.1
      have pL := H4.preL
      refine l_X3_test_69 ⟨R.1.pre, fun h1 e1 => ⟨fun c => by omega, fun _ h5 e6 => ?_⟩⟩
      rw [e1, ← e4] at e6
      subst e6
      refine ⟨by omega, fun c => by omega, fun _ => ⟨pL, fun h6 e6 => ?_⟩⟩
      subst e6
      rw [e35]
      have C2 : CtT X z h0 h dep i p ln (ln' + 1) (addX h5 4 0) (i' + 1) p' (ln' + 2) := Or.inr ⟨i', ln', v, rfl, rfl, rfl, hc, B.1, B.2.2.1, v1, fun k hk => by rw [B.2.1 k (by omega), v2 k hk], v3.congr (fun k k0 k1 => B.2.1 k k1), v4, v5⟩
      refine l_X3_test_115 (hP _ _ (i' + 1) p' (ln' + 2) B.1 (fun h2 i2 p2 ln2 y2 R2 t2 => ⟨1, rfl, ?_⟩) (fun h2 R2 => ⟨0, rfl, ?_⟩))
      · have q2 := R2.2.1
        refine l_X3_test_121 ⟨fun c => by omega, fun _ => l_X3_test_141 ⟨by omega, ?_⟩⟩
        exact lp_test hP hz kO kN f (n + 1) (ln' + 1) _ (i' + 1) p' (ln' + 2) h2 i2 p2 ln2 y2 (by have := R2.1.2.2.2.2.1; omega) C2 (R2.mono (by decide) (by decide) (by omega)) t2 (by omega) (by omega)
      · exact l_X3_test_121 ⟨fun c => by omega, fun _ => dead _ _ _ (by omega) (C2.no L (R2.mono (by decide) (by omega)))⟩
    have andB : X.c i' = 286 → Lp_X3_test_69 D b Q dep w n 0 h' := fun hc => by
      have A := R.1.adv (by omega)
      have B := A.1.add 5 0 (by omega)
      have e35 : gi (advX h') 35 2 = ln' := A.1.2.2.2.1
      have pL := A.1.preL
      refine l_X3_test_69 ⟨R.1.pre, fun h1 e1 => ⟨fun _ => ?_, fun c => absurd rfl c⟩⟩
      subst e1
      refine ⟨by omega, fun _ => ⟨pL, fun h2 e2 => ?_⟩, fun c => absurd rfl c⟩
      subst e2
      rw [e35]
      refine l_X3_test_115 (hP _ _ (i' + 1) p' (ln' + 2) B.1 (fun h2 i2 p2 ln2 y2 R2 t2 => ⟨1, rfl, ?_⟩) (fun h2 R2 => ⟨0, rfl, ?_⟩))
      · have q2 := R2.2.1
        have b9 := R2.1.2.2.2.2.2.2.1
        have i9 := R2.1.2.2.2.2.1
        refine l_X3_test_121 ⟨fun _ h3 e3 => l_X3_test_141 ⟨by omega, ?_⟩, fun c => absurd rfl c⟩
        rw [R2.1.lnd (by omega)] at e3
        have k2 : ∀ k, k ≠ ln' + 1 → gi h3 37 k = gi h2 37 k := fun k hk => by rw [e3, gi_nk hk]
        have k3 : gi h3 37 (ln' + 1) = ln2 := by rw [e3, gi_eq]
        have H3 : XP X z h0 h3 i2 p2 ln2 := by
          rw [e3]
          exact R2.1.si37
        have xj := XS.jmp (m := mX X.mode) (s := gi h3 37) (o := 29) (R.2.2.2.1.congr (fun k k0 k1 => by rw [k2 k (by omega), R2.2.2.1 k (by omega), B.2.1 k (by omega), A.2])) (R2.2.2.2.1.congr (fun k k0 k1 => k2 k (by omega))) (by rw [k2 _ (by omega), R2.2.2.1 _ (by omega), B.2.2.1, if_pos rfl]) k3 (by omega)
        rw [show p' - pT + (p2 - p') = p2 - pT by omega] at xj
        have tj := T01.jmp (w := if (29 : Int) = 29 then 0 else 1) ty t2
        exact lp_test hP hz kO kN f (n + 1) w hT iT pT lT h3 i2 p2 ln2 _ (by omega) C ⟨H3, by omega, fun k hk => by rw [k2 k (by omega), R2.2.2.1 k (by omega), B.2.1 k (by omega), A.2, R.2.2.1 k hk], xj, VB.of01 tj, ToS.jmp (o := 29) (lv := 2) L (Or.inl rfl) (by decide) R.2.2.2.2.2 (by rw [if_pos rfl]; exact hc) (by decide) R2.2.2.2.2.2⟩ tj (by omega) (by omega)
      · have N : RNo X h0 2 dep iT pT h2 := R2.toF (fun j F => ToF.jmp (o := 29) (lv := 2) L (Or.inl rfl) (by decide) R.2.2.2.2.2 (by rw [if_pos rfl]; exact hc) (by decide) F)
        exact l_X3_test_121 ⟨fun _ h3 e3 => by subst e3; exact dead _ _ _ (by omega) (C.no L N).lnd, fun c => absurd rfl c⟩
    refine l_X3_test_11 ?_
    rw [e5]
    exact ⟨fun c => by omega, fun _ => ⟨fun c => by omega, fun _ => ⟨by omega, fun c => ⟨by omega, fun _ => orB (by omega), fun c2 => absurd c c2⟩, fun c => ⟨by omega, fun c2 => ⟨by omega, fun c3 => absurd c3 c, fun _ => andB (by omega)⟩, fun c2 => stop (by omega)⟩⟩⟩⟩
theorem x_test {D : Nat} (hP : SpX X z h0 mX3_plain [vR (some 31), vI dep] D 3 4 dep (fun _ => True) (T01 (mX X.mode))) : SpX X z h0 mX3_test [vR (some 31), vI dep] (D + 1) 1 1 dep (fun c => c ≠ 286 ∧ c ≠ 285) (T01 (mX X.mode)) := by
  intro e b Q h i p ln H kO kN
  have hl := H.2.2.2.2.2.2.1
  have hi := H.2.2.2.2.1
  refine WM_d (show D + e + 1 = D + 1 + e by omega) (w_X3_test ?_)
  refine hP e 0 _ h i p ln H (fun h' i' p' ln' x R _ t => ⟨1, rfl, ?_⟩) (fun h' R => ⟨0, rfl, ?_⟩)
  · have r2 := R.2.1
    have hm := R.1.2.2.2.2.1
    exact lp_test (fun Q' h2 i2 p2 ln2 H2 a1 a2 => hP e 0 Q' h2 i2 p2 ln2 H2 (fun h' i' p' ln' x R _ t => a1 h' i' p' ln' x R t) a2) ⟨hi.1, hl.1, hl.2.2⟩ (fun h' i' p' ln' x R s t => kO h' i' p' ln' x R s t) kN (X.m - i').toNat 0 (-1) h i p ln h' i' p' ln' x (by omega) (Or.inl ⟨rfl, rfl, rfl, rfl, rfl⟩) (R.mono (by decide) (by decide) (by omega)) t (Int.le_refl _) (by omega)
  · have N : RNo X h0 1 dep i p h' := R.mono (by decide) (by omega)
    have e147 : Lp_X3_test_147 (D + e) b Q 0 (-1) h' := l_X3_test_147 (fun h3 e3 => ⟨Or.inl rfl, by rw [e3]; exact kN _ N.lnd⟩)
    exact l_X3_test_11 ⟨fun _ => e147, fun _ => ⟨fun _ => e147, fun y => absurd rfl y⟩⟩
theorem x_all : ∀ (r : Nat) (dep : Int), dep + r = 8 → 0 ≤ dep → SpX X z h0 mX3_sum [vR (some 31), vI dep] (3 * r + 3) 5 5 dep (fun c => bop c = -1) (fun _ => True) ∧ SpX X z h0 mX3_test [vR (some 31), vI dep] (3 * r + 6) 1 1 dep (fun c => c ≠ 286 ∧ c ≠ 285) (T01 (mX X.mode))
  | 0, dep, e, h => by
    have s := (x_sum (x_part (X := X) (z := z) (h0 := h0) (dep := dep) (D := 0) (by omega) (fun y => by omega))).up
    have t := (x_test (x_plain (D := 3) (by omega) s (fun y => by omega))).up
    exact ⟨s, t⟩
  | r + 1, dep, e, h => by
    obtain ⟨i1, i2⟩ := x_all r (dep + 1) (by omega) (by omega)
    have s := (x_sum (x_part (X := X) (z := z) (h0 := h0) (dep := dep) (D := 3 * r + 3) (by omega) (fun _ => i1))).up
    have s' : SpX X z h0 mX3_sum [vR (some 31), vI dep] (3 * r + 6) 5 5 dep (fun c => bop c = -1) (fun _ => True) := s
    have t := (x_test (x_plain (D := 3 * r + 6) (by omega) s' (fun _ => i2))).up
    exact ⟨s', t⟩
end XTST
