/-! the class reads: tests -/
section XTST
variable {X : Txt} {z : Int} {h0 : AH} {dep : Int}
def vT (t : Int) (x : Vl) : Vl := if t = 0 then x else vNot x
theorem lp_plain154 {d b : Nat} {Q : Option AV → AH → Prop} {h h' : AH} {t i p ln i' p' ln' : Int} {x : Vl} (H : XP X z h0 h' i' p' ln') (hr : i < i' ∧ p < p' ∧ ln < ln' ∧ ln' ≤ ln + 2 * (i' - i) ∧ (t ≠ 0 → ln' + 2 ≤ ln + 2 * (i' - i))) (hl : ln ≤ 2 * i + z) (hk : ∀ k, k < ln → gi h' 37 k = gi h 37 k) (xs : XS (mX X.mode) (gi h' 37) ln ln' (p' - p) x) (t01 : T01 (mX X.mode) x) (ts : ToS X 3 4 dep i p i' p' (vT t x))
    (K : ∀ h' i' p' ln' x, ROk X z h0 h 3 4 dep i p ln h' i' p' ln' x → T01 (mX X.mode) x → Q (some (vI 1)) h') : Lp_X3_plain_154 d b Q t h' := by
  refine l_X3_plain_154 ⟨fun c => ?_, fun c => ⟨H.preL, fun h1 e1 => ?_⟩⟩
  · unfold vT at ts
    rw [if_pos c] at ts
    exact K h' i' p' ln' x ⟨H, by omega, hk, xs, VB.of01 t01, ts⟩ t01
  · subst e1
    unfold vT at ts
    rw [if_neg c] at ts
    have q := hr.2.2.2.2 c
    have B := H.add 3 0 (by omega)
    have x1 := XS.not (xs.congr (fun k k0 k1 => B.2.1 k k1)) B.2.2.1 B.2.2.2
    exact K _ i' p' (ln' + 2) (vNot x) ⟨B.1, by omega, fun k k1 => (B.2.1 k (by omega)).trans (hk k k1), x1, VB.of01 t01.not, ts⟩ t01.not
theorem cm_of {c : Int} (h : c = 60 ∨ c = 62 ∨ c = 61) : ∃ o, (25 ≤ o ∧ o ≤ 27) ∧ c = sgO o := by
  rcases h with h | h | h <;> subst h
  · exact ⟨25, by decide⟩
  · exact ⟨26, by decide⟩
  · exact ⟨27, by decide⟩
theorem lp_plain44 {D b : Nat} {Q : Option AV → AH → Prop} {h h' : AH} {t i p ln j : Int} (hd : 0 ≤ dep ∧ dep ≤ 8)
    (hS : SpX X z h0 mX3_sum [vR (some 31), vI 0, vI dep] D 5 5 dep (fun c => bop c = -1) (fun _ => True)) (hT : dep < 8 → SpX X z h0 mX3_test [vR (some 31), vI 0, vI (dep + 1)] D 1 1 (dep + 1) (fun c => c ≠ 286 ∧ c ≠ 285) (T01 (mX X.mode))) (e : Nat)
    (H : XP X z h0 h' j p ln) (h37 : gi h' 37 = gi h 37) (hij : 0 ≤ i ∧ i ≤ j ∧ (t ≠ 0 → i < j)) (hl : ln ≤ 2 * i + z) (hc : X.c j ≠ 287)
    (tS : ∀ i' p' x, ToS X 3 4 dep j p i' p' x → ToS X 3 4 dep i p i' p' (vT t x)) (tF : ∀ k, ToF X 4 dep j p k → ToF X 4 dep i p k)
    (kO : ∀ h' i' p' ln' x, ROk X z h0 h 3 4 dep i p ln h' i' p' ln' x → T01 (mX X.mode) x → Q (some (vI 1)) h') (kN : ∀ h', RNo X h0 4 dep i p h' → Q (some (vI 0)) h') : Lp_X3_plain_44 (D + e) b Q dep t h' := by
  have L := H.L
  have e5 := H.2.1
  have hi := H.2.2.2.2.1
  refine l_X3_plain_44 ?_
  rw [e5]
  refine ⟨fun c => ⟨fun c8 => ⟨H.pre, fun h2 e2 => ⟨by omega, ?_⟩⟩, fun c8 => kN h' ((RNo.at H (ToF.rd0 c c8)).toF tF)⟩, fun c => ?_⟩
  · subst e2
    have A := H.adv (by omega)
    refine hT c8 e 0 _ _ (j + 1) p ln A.1 (fun h3 i3 p3 ln3 x R st tt => ⟨1, rfl, fun y => by omega, fun _ => ?_⟩) (fun h3 R => ⟨0, rfl, fun _ => kN h3 ((R.toF (fun k F => ToF.rd1 L c c8 F)).toF tF), fun y => absurd rfl y⟩)
    rw [R.1.2.1]
    refine ⟨fun c4 => ⟨R.1.pre, fun h4 e4 => ?_⟩, fun c4 => kN h3 ((RNo.at R.1 (ToF.rd2 L c c8 R.2.2.2.2.2 ⟨st.1, st.2, c4⟩)).toF tF)⟩
    subst e4
    have B := R.1.adv (by omega)
    have r2 := R.2.1
    exact lp_plain154 (h := h) B.1 (by omega) hl (fun k k1 => by rw [B.2, R.2.2.1 k k1, A.2, h37]) (by rw [B.2]; exact R.2.2.2.1) tt (tS _ _ _ (ToS.rd L c c8 R.2.2.2.2.2 c4)) kO
  · refine hS e 0 _ _ j p ln H (fun h1 i1 p1 ln1 x R st _ => ⟨1, rfl, fun y => by omega, fun _ => ?_⟩) (fun h1 R => ⟨0, rfl, fun _ => kN h1 ((R.toF (fun k F => ToF.cmpA ⟨hc, c⟩ F)).toF tF), fun y => absurd rfl y⟩)
    rw [R.1.2.1]
    have r2 := R.2.1
    have go : (X.c i1 = 60 ∨ X.c i1 = 62 ∨ X.c i1 = 61) → Lp_X3_plain_130 (D + e) b Q dep t (X.c i1) h1 := fun cc => by
      obtain ⟨o, o1, o2⟩ := cm_of cc
      have A := R.1.adv (by omega)
      refine l_X3_plain_130 ⟨R.1.pre, fun h2 e2 => ?_⟩
      subst e2
      refine hS e 0 _ _ (i1 + 1) p1 ln1 A.1 (fun h3 i3 p3 ln3 y R3 st3 _ => ⟨1, rfl, fun y => by omega, fun _ => ⟨R3.1.preL, fun h4 e4 => ?_⟩⟩) (fun h3 R3 => ⟨0, rfl, fun _ => kN h3 ((R3.toF (fun k F => ToF.cmp2 L o1 ⟨hc, c⟩ R.2.2.2.2.2 o2 F)).toF tF), fun y => absurd rfl y⟩)
      subst e4
      have q2 := R3.2.1
      have B := R3.1.add (X.c i1) 0 (by omega)
      have q := XS.bin (m := mX X.mode) (s := gi (addX h3 (X.c i1) 0) 37) (o := o) (R.2.2.2.1.congr (fun k k0 k1 => by rw [B.2.1 k (by omega), R3.2.2.1 k k1, A.2])) (R3.2.2.2.1.congr (fun k k0 k1 => B.2.1 k k1)) (B.2.2.1.trans o2) B.2.2.2 (by omega)
      rw [show p1 - p + (p3 - p1) = p3 - p by omega] at q
      exact lp_plain154 (h := h) B.1 (by omega) hl (fun k k1 => by rw [B.2.1 k (by omega), R3.2.2.1 k (by omega), A.2, R.2.2.1 k k1, h37]) q (T01.cmp o1) (tS _ _ _ (ToS.cmp L o1 ⟨hc, c⟩ R.2.2.2.2.2 o2 R3.2.2.2.2.2 st3)) kO
    exact ⟨fun y => go (Or.inl y), fun y1 => ⟨fun y => go (Or.inr (Or.inl y)), fun y2 => ⟨fun y => go (Or.inr (Or.inr y)), fun y3 => kN h1 ((RNo.at R.1 (ToF.cmp1 ⟨hc, c⟩ R.2.2.2.2.2 st ⟨y1, y2, y3⟩)).toF tF)⟩⟩⟩
theorem lp_plain4 {D b : Nat} {Q : Option AV → AH → Prop} {h : AH} {i p ln : Int} (hd : 0 ≤ dep ∧ dep ≤ 8)
    (hS : SpX X z h0 mX3_sum [vR (some 31), vI 0, vI dep] D 5 5 dep (fun c => bop c = -1) (fun _ => True)) (hT : dep < 8 → SpX X z h0 mX3_test [vR (some 31), vI 0, vI (dep + 1)] D 1 1 (dep + 1) (fun c => c ≠ 286 ∧ c ≠ 285) (T01 (mX X.mode))) (e : Nat) (hl : 0 ≤ i ∧ ln ≤ 2 * i + z)
    (kO : ∀ h' i' p' ln' x, ROk X z h0 h 3 4 dep i p ln h' i' p' ln' x → T01 (mX X.mode) x → Q (some (vI 1)) h') (kN : ∀ h', RNo X h0 4 dep i p h' → Q (some (vI 0)) h') :
    ∀ (f : Nat) (n t j : Int) (h' : AH), X.m ≤ j + f → XP X z h0 h' j p ln → gi h' 37 = gi h 37 → (i ≤ j ∧ (t ≠ 0 → i < j)) → 0 ≤ n → n ≤ j - i → (t = 0 ∨ t = 1) → (∀ i' p' x, ToS X 3 4 dep j p i' p' x → ToS X 3 4 dep i p i' p' (vT t x)) → (∀ k, ToF X 4 dep j p k → ToF X 4 dep i p k) → Lp_X3_plain_4 (D + e) b Q dep t n h'
  | 0, n, t, j, h', hf, H, _, _, _, _, _, _, _ => by
    have := H.2.2.2.2.1
    omega
  | f + 1, n, t, j, h', hf, H, h37, hij, n0, n1, ht, tS, tF => by
    have L := H.L
    have m := L.m1
    have hi := H.2.2.2.2.1
    have e5 := H.2.1
    have cR := L.c_R hi
    by_cases c : X.c j = 287
    · have A := H.adv (by omega)
      have l1 := L.lt hi (show X.c j ≠ -1 by omega)
      have go : ∀ t2 : Int, (t2 = 0 ∨ t2 = 1) → (∀ x, vT t (vNot x) = vT t2 x) → Lp_X3_plain_4 (D + e) b Q dep t2 (n + 1) (advX h') := fun t2 b2 ev =>
        lp_plain4 hd hS hT e hl kO kN f (n + 1) t2 (j + 1) (advX h') (by omega) A.1 (A.2.trans h37) (by omega) (by omega) (by omega) b2 (fun i' p' x T => by rw [← ev]; exact tS i' p' _ (ToS.not L c T)) (fun k T => tF k (ToF.not L c T))
      refine l_X3_plain_4 ?_
      rw [e5]
      refine ⟨fun y => by omega, fun _ => ⟨by omega, fun _ => ⟨fun c0 => ⟨H.pre, fun h2 e2 => ⟨by omega, ?_⟩⟩, fun c0 => ⟨H.pre, fun h2 e2 => ⟨by omega, ?_⟩⟩⟩, fun y => by omega⟩⟩
      · subst e2
        exact go 1 (Or.inr rfl) (fun x => by unfold vT; rw [if_pos c0, if_neg (by decide)])
      · subst e2
        exact go 0 (Or.inl rfl) (fun x => by unfold vT; rw [if_neg c0, if_pos rfl, vNot_not])
    · have F := lp_plain44 (h := h) (b := b) (Q := Q) hd hS hT e H h37 ⟨hl.1, hij.1, hij.2⟩ hl.2 c tS tF kO kN
      refine l_X3_plain_4 ?_
      rw [e5]
      exact ⟨fun _ => F, fun _ => ⟨by omega, fun y => by omega, fun _ => F⟩⟩
theorem x_plain {D : Nat} (hd : 0 ≤ dep ∧ dep ≤ 8) (hS : SpX X z h0 mX3_sum [vR (some 31), vI 0, vI dep] D 5 5 dep (fun c => bop c = -1) (fun _ => True)) (hT : dep < 8 → SpX X z h0 mX3_test [vR (some 31), vI 0, vI (dep + 1)] D 1 1 (dep + 1) (fun c => c ≠ 286 ∧ c ≠ 285) (T01 (mX X.mode))) : SpX X z h0 mX3_plain [vR (some 31), vI dep] (D + 1) 3 4 dep (fun _ => True) (T01 (mX X.mode)) := by
  intro e b Q h i p ln H kO kN
  have hl := H.2.2.2.2.2.2.1
  have hi := H.2.2.2.2.1
  refine WM_d (show D + e + 1 = D + 1 + e by omega) (w_X3_plain ?_)
  exact lp_plain4 hd hS hT e ⟨hi.1, hl.2.2⟩ (fun h' i' p' ln' x R t => kO h' i' p' ln' x R True.intro t) kN (X.m - i).toNat 0 0 i h (by omega) H rfl ⟨Int.le_refl _, fun y => absurd rfl y⟩ (Int.le_refl _) (by omega) (Or.inl rfl) (fun i' p' x T => by unfold vT; rw [if_pos rfl]; exact T) (fun k T => T)
theorem lp_test {D : Nat} {y1 lv o l2 hi2 : Int} {st : Int → Prop} (hlv : (y1 = 0 ∧ lv = 1 ∧ o = 30 ∧ l2 = 2 ∧ hi2 = 2) ∨ (y1 = 1 ∧ lv = 2 ∧ o = 29 ∧ l2 = 3 ∧ hi2 = 4)) (hst : ∀ c, st c → y1 = 0 → c ≠ 286)
    (hC : ∀ (Q : Option AV → AH → Prop) (h : AH) (i p ln : Int), XP X z h0 h i p ln → (∀ h' i' p' ln' x, ROk X z h0 h l2 hi2 dep i p ln h' i' p' ln' x → st (X.c i') → T01 (mX X.mode) x → Q (some (vI 1)) h') → (∀ h', RNo X h0 hi2 dep i p h' → Q (some (vI 0)) h') → (y1 = 0 → WM GX D 0 mX3_test [vR (some 31), vI 1, vI dep] h Q) ∧ (¬ y1 = 0 → WM GX D 0 mX3_plain [vR (some 31), vI dep] h Q))
    {b : Nat} {Q : Option AV → AH → Prop} {h : AH} {i p ln : Int} (hz : 0 ≤ i ∧ 0 ≤ ln ∧ ln ≤ 2 * i + z)
    (kO : ∀ h' i' p' ln' x, ROk X z h0 h lv lv dep i p ln h' i' p' ln' x → (X.c i' ≠ 286 ∧ (y1 = 0 → X.c i' ≠ 285)) → T01 (mX X.mode) x → Q (some (vI 1)) h') (kN : ∀ h', RNo X h0 lv dep i p h' → Q (some (vI 0)) h') :
    ∀ (f : Nat) (n : Int) (h' : AH) (i' p' ln' : Int) (x : Vl), X.m ≤ i' + f → ROk X z h0 h lv lv dep i p ln h' i' p' ln' x → st (X.c i') → T01 (mX X.mode) x → 0 ≤ n → 2 * n ≤ i' → Lp_X3_test_35 D b Q y1 dep 1 (if y1 = 0 then 27 else 28) n h'
  | 0, n, h', i', p', ln', x, hf, R, _, _, _, _ => by
    have := R.1.2.2.2.2.1
    omega
  | f + 1, n, h', i', p', ln', x, hf, R, sti, tx, n0, n2 => by
    have L := R.1.L
    have m := L.m1
    have hi := R.1.2.2.2.2.1
    have e5 := R.1.2.1
    have sp := hst _ sti
    have cR := L.c_R hi
    have y4 : (if y1 = 0 then (27 : Int) else 28) = 27 ∧ y1 = 0 ∨ (if y1 = 0 then (27 : Int) else 28) = 28 ∧ y1 = 1 := by
      split <;> omega
    obtain ⟨w, ew⟩ : ∃ w, (if y1 = 0 then (27 : Int) else 28) = w := ⟨_, rfl⟩
    rw [ew] at y4
    have ihf := fun n h' i' p' ln' x => lp_test (b := b) hlv hst hC hz kO kN f n h' i' p' ln' x
    rw [ew] at ihf ⊢
    by_cases c : X.c i' - 258 = w
    rotate_left
    · have F : Q (some (vI 1)) h' := kO h' i' p' ln' x R (by omega) tx
      refine l_X3_test_35 ?_
      rw [e5]
      exact ⟨fun _ => ⟨Or.inr rfl, F⟩, fun _ => ⟨fun y => by omega, fun _ => ⟨by omega, fun y => absurd y c, fun _ => ⟨Or.inr rfl, F⟩⟩⟩⟩
    have ho : o = 29 ∨ o = 30 := by omega
    have hco : X.c i' = if o = 29 then 286 else 285 := by
      split <;> omega
    have ez : zbin o = lv := by
      rcases hlv with ⟨_, q2, q3, _⟩ | ⟨_, q2, q3, _⟩ <;> subst q2 q3 <;> decide
    have hll : lv ≤ l2 ∧ lv < hi2 ∧ hi2 ≤ 4 := by omega
    have cn : X.c i' ≠ -1 := by omega
    have A := R.1.adv cn
    have r2 := R.2.1
    refine l_X3_test_35 ?_
    rw [e5]
    refine ⟨fun y => by omega, fun _ => ⟨fun y => by omega, fun _ => ⟨by omega, fun _ => ?_, fun y => absurd c y⟩⟩⟩
    have e35 : gi (advX h') 35 2 = ln' := A.1.2.2.2.1
    have go : ∀ s : Int, s = (if o = 29 then 5 else 4) → Lp_X3_test_92 D b Q y1 dep w n (ln' + 1) (addX (advX h') s 0) := fun s es => by
      have B := A.1.add s 0 (by omega)
      have mid : ∀ h2 i2 p2 ln2 y, ROk X z h0 (addX (advX h') s 0) l2 hi2 dep (i' + 1) p' (ln' + 2) h2 i2 p2 ln2 y → st (X.c i2) → T01 (mX X.mode) y → Lp_X3_test_111 D b Q y1 dep 1 w n (ln' + 1) h2 := fun h2 i2 p2 ln2 y R2 s2 t2 => by
        have q2 := R2.2.1
        have pL := R2.1.preL
        have b9 := R2.1.2.2.2.2.2.2.1
        have i9 := R2.1.2.2.2.2.1
        have z9 := R2.1.2.2.2.2.2.2.2.2.2.2.2.2.2
        refine l_X3_test_111 ⟨fun y => by omega, fun _ => ⟨by omega, fun h3 e3 => ⟨by omega, ?_⟩⟩⟩
        subst e3
        have H2 := R2.1
        obtain ⟨g1, g2, g3, g4, g5, g6, g7, g8, g9⟩ := H2
        have HH : XP X z h0 (si h2 37 (ln' + 1) (gi h2 35 2)) i2 p2 ln2 := ⟨by rw [gi_no (by decide)]; exact g1, by rw [gi_no (by decide)]; exact g2, by rw [gi_no (by decide)]; exact g3, by rw [gi_no (by decide)]; exact g4, g5, g6, g7, g8.si (Or.inl rfl), g9⟩
        have k2 : ∀ k, k ≠ ln' + 1 → gi (si h2 37 (ln' + 1) (gi h2 35 2)) 37 k = gi h2 37 k := fun k hk => gi_nk hk
        have xj := XS.jmp (m := mX X.mode) (s := gi (si h2 37 (ln' + 1) (gi h2 35 2)) 37) (o := o) (R.2.2.2.1.congr (fun k k0 k1 => by rw [k2 k (by omega), R2.2.2.1 k (by omega), B.2.1 k (by omega), A.2])) (R2.2.2.2.1.congr (fun k k0 k1 => k2 k (by omega))) (by rw [k2 _ (by omega), R2.2.2.1 _ (by omega), B.2.2.1, es]) (by rw [gi_eq, g4]) (by omega)
        rw [show p' - p + (p2 - p') = p2 - p by omega] at xj
        have tj := T01.jmp (w := if o = 29 then 0 else 1) tx t2
        refine ihf (n + 1) _ i2 p2 ln2 (vJmp (if o = 29 then 0 else 1) x y) (by omega) ⟨HH, by omega, fun k hk => by rw [k2 k (by omega), R2.2.2.1 k (by omega), B.2.1 k (by omega), A.2, R.2.2.1 k hk], xj, VB.of01 tj, ToS.jmp L ho ez R.2.2.2.2.2 hco hll R2.2.2.2.2.2⟩ s2 tj (by omega) (by omega)
      have bad : ∀ h2, RNo X h0 hi2 dep (i' + 1) p' h2 → Lp_X3_test_111 D b Q y1 dep 0 w n (ln' + 1) h2 := fun h2 R2 => by
        have N : RNo X h0 lv dep i p h2 := R2.toF (fun j F => ToF.jmp L ho ez R.2.2.2.2.2 hco ⟨hll.2.1, hll.2.2⟩ F)
        have N2 : RNo X h0 lv dep i p (si h2 37 (ln' + 1) (gi h2 35 2)) := by
          obtain ⟨n1, n2, n3, n4⟩ := N
          exact ⟨n1.si (Or.inl rfl), by rw [gi_no (by decide)]; exact n2, by rw [gi_no (by decide)]; exact n3, by rw [gi_no (by decide)]; exact n4⟩
        refine l_X3_test_111 ⟨fun y => ⟨by omega, ?_⟩, fun _ => ⟨by omega, fun h3 e3 => ⟨by omega, ?_⟩⟩⟩
        · exact l_X3_test_35 ⟨fun _ => ⟨Or.inl rfl, kN _ N⟩, fun _ => ⟨fun _ => ⟨Or.inl rfl, kN _ N⟩, fun y => absurd rfl y⟩⟩
        · subst e3
          exact l_X3_test_35 ⟨fun _ => ⟨Or.inl rfl, kN _ N2⟩, fun _ => ⟨fun _ => ⟨Or.inl rfl, kN _ N2⟩, fun y => absurd rfl y⟩⟩
      have C := hC (fun r h3 => ∃ u4, r = some (vI u4) ∧ Lp_X3_test_111 D b Q y1 dep u4 w n (ln' + 1) h3) _ (i' + 1) p' (ln' + 2) B.1 (fun h2 i2 p2 ln2 y R2 s2 t2 => ⟨1, rfl, mid h2 i2 p2 ln2 y R2 s2 t2⟩) (fun h2 R2 => ⟨0, rfl, bad h2 R2⟩)
      exact l_X3_test_92 ⟨C.1, C.2⟩
    refine l_X3_test_60 ⟨R.1.pre, fun h1 e1 => ?_⟩
    subst e1
    rw [e35]
    have pL := A.1.preL
    rw [e35] at pL
    refine ⟨by omega, fun c0 => ⟨pL, fun h3 e3 => ?_⟩, fun c0 => ⟨pL, fun h3 e3 => ?_⟩⟩
    · subst e3
      exact go 4 (by rw [if_neg (by omega)])
    · subst e3
      exact go 5 (by rw [if_pos (by omega)])
theorem x_both {D : Nat} (hP : SpX X z h0 mX3_plain [vR (some 31), vI dep] D 3 4 dep (fun _ => True) (T01 (mX X.mode))) : SpX X z h0 mX3_test [vR (some 31), vI 1, vI dep] (D + 1) 2 2 dep (fun c => c ≠ 286) (T01 (mX X.mode)) := by
  intro e b Q h i p ln H kO kN
  have hl := H.2.2.2.2.2.2.1
  have hi := H.2.2.2.2.1
  refine WM_d (show D + e + 1 = D + 1 + e by omega) (w_X3_test ⟨fun y => by omega, fun _ => ?_⟩)
  refine hP e 0 _ h i p ln H (fun h' i' p' ln' x R _ t => ⟨1, rfl, fun y => by omega, fun _ => ?_⟩) (fun h' R => ⟨0, rfl, fun y => by omega, fun _ => ?_⟩)
  · have r2 := R.2.1
    have hm := R.1.2.2.2.2.1
    exact lp_test (y1 := 1) (lv := 2) (o := 29) (l2 := 3) (hi2 := 4) (st := fun _ => True) (Or.inr ⟨rfl, rfl, rfl, rfl, rfl⟩) (fun c _ y => by omega) (fun Q' h2 i2 p2 ln2 H2 a1 a2 => ⟨fun y => by omega, fun _ => hP e 0 Q' h2 i2 p2 ln2 H2 (fun h' i' p' ln' x R _ t => a1 h' i' p' ln' x R True.intro t) a2⟩) ⟨hi.1, hl.1, hl.2.2⟩ (fun h' i' p' ln' x R s t => kO h' i' p' ln' x R s.1 t) kN (X.m - i').toNat 0 h' i' p' ln' x (by omega) (R.mono (by decide) (by decide) (by omega)) True.intro t (Int.le_refl _) (by omega)
  · exact l_X3_test_35 ⟨fun _ => ⟨Or.inl rfl, kN _ (R.mono (by decide) (by omega))⟩, fun _ => ⟨fun _ => ⟨Or.inl rfl, kN _ (R.mono (by decide) (by omega))⟩, fun y => absurd rfl y⟩⟩
theorem x_test {D : Nat} (hP : SpX X z h0 mX3_test [vR (some 31), vI 1, vI dep] D 2 2 dep (fun c => c ≠ 286) (T01 (mX X.mode))) : SpX X z h0 mX3_test [vR (some 31), vI 0, vI dep] (D + 1) 1 1 dep (fun c => c ≠ 286 ∧ c ≠ 285) (T01 (mX X.mode)) := by
  intro e b Q h i p ln H kO kN
  have hl := H.2.2.2.2.2.2.1
  have hi := H.2.2.2.2.1
  refine WM_d (show D + e + 1 = D + 1 + e by omega) (w_X3_test ⟨fun _ => ?_, fun y => absurd rfl y⟩)
  refine hP e 0 _ h i p ln H (fun h' i' p' ln' x R s t => ⟨1, rfl, fun _ => ?_, fun y => absurd rfl y⟩) (fun h' R => ⟨0, rfl, fun _ => ?_, fun y => absurd rfl y⟩)
  · have r2 := R.2.1
    have hm := R.1.2.2.2.2.1
    exact lp_test (y1 := 0) (lv := 1) (o := 30) (l2 := 2) (hi2 := 2) (st := fun c => c ≠ 286) (Or.inl ⟨rfl, rfl, rfl, rfl, rfl⟩) (fun c s _ => s) (fun Q' h2 i2 p2 ln2 H2 a1 a2 => ⟨fun _ => hP e 0 Q' h2 i2 p2 ln2 H2 a1 a2, fun y => absurd rfl y⟩) ⟨hi.1, hl.1, hl.2.2⟩ (fun h' i' p' ln' x R s t => kO h' i' p' ln' x R ⟨s.1, s.2 rfl⟩ t) kN (X.m - i').toNat 0 h' i' p' ln' x (by omega) (R.mono (by decide) (by decide) (by omega)) s t (Int.le_refl _) (by omega)
  · exact l_X3_test_35 ⟨fun _ => ⟨Or.inl rfl, kN _ (R.mono (by decide) (by omega))⟩, fun _ => ⟨fun _ => ⟨Or.inl rfl, kN _ (R.mono (by decide) (by omega))⟩, fun y => absurd rfl y⟩⟩
theorem x_all : ∀ (r : Nat) (dep : Int), dep + r = 8 → 0 ≤ dep → SpX X z h0 mX3_sum [vR (some 31), vI 0, vI dep] (3 * r + 3) 5 5 dep (fun c => bop c = -1) (fun _ => True) ∧ SpX X z h0 mX3_test [vR (some 31), vI 0, vI dep] (3 * r + 6) 1 1 dep (fun c => c ≠ 286 ∧ c ≠ 285) (T01 (mX X.mode))
  | 0, dep, e, h => by
    have s := x_sum (x_term (x_part (X := X) (z := z) (h0 := h0) (dep := dep) (D := 0) (by omega) (fun y => by omega)))
    have t := x_test (x_both (x_plain (D := 3) (by omega) s (fun y => by omega)))
    exact ⟨s, t⟩
  | r + 1, dep, e, h => by
    obtain ⟨i1, i2⟩ := x_all r (dep + 1) (by omega) (by omega)
    have s := x_sum (x_term (x_part (X := X) (z := z) (h0 := h0) (dep := dep) (D := 3 * r + 3) (by omega) (fun _ => i1)))
    have s' : SpX X z h0 mX3_sum [vR (some 31), vI 0, vI dep] (3 * r + 6) 5 5 dep (fun c => bop c = -1) (fun _ => True) := s
    have t := x_test (x_both (x_plain (D := 3 * r + 6) (by omega) s' (fun _ => i2)))
    exact ⟨s', t⟩
end XTST
