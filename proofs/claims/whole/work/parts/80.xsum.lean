/-! the class reads: parts, sums -/
theorem LxOK.c_R {X : Txt} (L : LxOK X) {i : Int} (hi : 0 ≤ i ∧ i < X.m) : -1 ≤ X.c i ∧ X.c i ≤ 300 := by
  have q := L.pl0 hi
  unfold Txt.c cdF
  split
  · omega
  · split
    · have := wFind_R wds 258 (lets X.T (X.pl i) (tEnd X.T X.n (X.pl i) - X.pl i).toNat) (by decide)
      unfold wCode
      have l : wds.length = 30 := by decide
      omega
    · split
      · omega
      · have := L.by_ (X.pl i) q.1 (by omega)
        omega
section XFUN
variable {X : Txt} {z : Int} {h0 : AH} {dep : Int}
theorem lp_part167 {d b : Nat} {Q : Option AV → AH → Prop} {h h1 : AH} {i p ln i1 s v o a n : Int} (H : XP X z h0 h1 i1 p ln) (h37 : gi h1 37 = gi h 37) (H0 : 0 ≤ i ∧ i ≤ i1) (hl0 : ln ≤ 2 * i + z) (hc : X.c i1 ≠ -1) (hp : p < 50) (pt : PtOk X i o a (i1 + 1)) (hci : X.c i ≠ 91) (hn : s = if n = 0 then 2 else 1)
    (hs : (s = 1 ∧ v = a ∧ o = 0 ∧ -1000000000 ≤ a ∧ a ≤ 1000000000) ∨ (s = 2 ∧ v = fiX X.mode o a ∧ o ≠ 0 ∧ okF (mX X.mode) (fiX X.mode o a)))
    (K : ∀ h' i' p' ln' x, ROk X z h0 h 7 7 dep i p ln h' i' p' ln' x → Q (some (vI 1)) h') : Lp_X3_part_167 d b Q n v h1 := by
  obtain ⟨s1, s2, s3, s4⟩ := x_step (dep := dep) H h37 H0 (by omega) hl0 hc hp pt hci hs
  by_cases c : n = 0
  · rw [if_pos c] at hn
    subst hn
    exact l_X3_part_167 ⟨fun _ => ⟨s2, fun h2 e2 => by subst e2; exact ⟨s3, fun h3 e3 => by subst e3; exact ⟨s4, fun h4 e4 => by subst e4; exact K _ _ _ _ _ s1⟩⟩⟩, fun y => absurd c y⟩
  · rw [if_neg c] at hn
    subst hn
    exact l_X3_part_167 ⟨fun y => absurd y c, fun _ => ⟨s2, fun h2 e2 => by subst e2; exact ⟨s3, fun h3 e3 => by subst e3; exact ⟨s4, fun h4 e4 => by subst e4; exact K _ _ _ _ _ s1⟩⟩⟩⟩
theorem x_part {D : Nat} (hd : 0 ≤ dep ∧ dep ≤ 8) (hS : dep < 8 → SpX X z h0 mX3_sum [vR (some 31), vI 0, vI (dep + 1)] D 5 5 (dep + 1) (fun c => bop c = -1) (fun _ => True)) : SpX X z h0 mX3_part [vR (some 31), vI dep] (D + 1) 7 7 dep (fun _ => True) (fun _ => True) := by
  intro e b Q h i p ln H kO kN
  have L := H.L
  have md := H.md
  have e5 := H.2.1
  have e6 := H.2.2.1
  have e7 : gi h 31 7 = X.mode := (H.2.2.2.2.2.2.2.1.1 _ _ (by omega)).trans H.2.2.2.2.2.2.2.2.2.2.1
  have hi := H.2.2.2.2.1
  have hl := H.2.2.2.2.2.2.1
  have pre := H.pre
  have cR := L.c_R hi
  refine WM_d (show D + e + 1 = D + 1 + e by omega) (w_X3_part ?_)
  rw [e5, e6, e7]
  refine ⟨fun c => ⟨fun c8 => ⟨pre, fun h1 e1 => ⟨by omega, ?_⟩⟩, fun c8 => kN h (RNo.at H (ToF.sq0 c c8))⟩, fun c => ⟨fun cp => ⟨fun cn => ⟨by omega, ?_⟩, fun cn => ⟨fun c0 => ⟨by omega, ?_⟩, fun c0 => ⟨by omega, ?_⟩⟩⟩, fun cp => kN h (RNo.at H (ToF.part0 L md c (Or.inl (by omega))))⟩⟩
  · subst e1
    have A := H.adv (by omega)
    refine hS c8 e 0 _ _ (i + 1) p ln A.1 (fun h2 i2 p2 ln2 x R st _ => ⟨1, rfl, fun y => by omega, fun _ => ?_⟩) (fun h2 R => ⟨0, rfl, fun _ => ?_, fun y => absurd rfl y⟩)
    · rw [R.1.2.1]
      refine ⟨fun c2 => ⟨R.1.pre, fun h3 e3 => ?_⟩, fun c2 => kN h2 (RNo.at R.1 (ToF.sq2 L c c8 R.2.2.2.2.2 st c2))⟩
      subst e3
      have B := R.1.adv (by omega)
      refine kO _ (i2 + 1) p2 ln2 x ⟨B.1, by have := R.2.1; omega, fun k hk => ?_, ?_, R.2.2.2.2.1, ToS.sq L c c8 R.2.2.2.2.2 st c2⟩ True.intro True.intro
      · rw [B.2, R.2.2.1 k hk, A.2]
      · rw [B.2]
        exact R.2.2.2.1
    · exact kN h2 (R.toF (fun j F => ToF.sq1 L c c8 F))
  · rw [H.nF rfl]
    by_cases cv : X.v i ≤ 1000
    · have v0 := v_nn L hi cn
      rw [if_pos ⟨cn, cv⟩]
      refine ⟨fun y => by omega, fun _ => l_X3_part_131 ⟨fun y => by omega, fun _ => ?_⟩⟩
      exact lp_part167 (dep := dep) H rfl ⟨hi.1, Int.le_refl _⟩ hl.2.2 (by omega) cp (o := 0) (a := X.v i) (Or.inl ⟨⟨cn, cv⟩, rfl, rfl, rfl⟩) c (s := 1) rfl (Or.inl ⟨rfl, rfl, rfl, by omega, by omega⟩) (fun h' i' p' ln' x R => kO h' i' p' ln' x R True.intro True.intro)
    · rw [if_neg (fun y => cv y.2)]
      refine ⟨fun _ => kN h (RNo.at H (ToF.part0 L md c (Or.inr ⟨fun y => cv y.2, ?_⟩))), fun y => absurd rfl y⟩
      rw [cn]
      exact ptF_256 _
  · rw [ptF_l]
    have R := ptF_R X.mode (X.c i)
    rw [c0] at R
    have nr : ¬ rpN X i := fun y => cn y.1
    by_cases cv : ptF 0 (X.c i) = -1
    · rw [if_pos cv]
      exact ⟨fun _ => kN h (RNo.at H (ToF.part0 L md c (Or.inr ⟨nr, by rw [c0]; exact cv⟩))), fun y => absurd rfl y⟩
    · rw [if_neg cv]
      have R2 : 1 ≤ ptF 0 (X.c i) ∧ ptF 0 (X.c i) ≤ 11 ∧ X.c i ≠ -1 := by omega
      have ef : fiX X.mode (ptF 0 (X.c i)) 0 = ptF 0 (X.c i) - 1 := by
        unfold fiX
        rw [if_pos c0]
      have em : mX X.mode = 10 := by
        unfold mX
        rw [if_pos c0]
      refine ⟨fun y => by omega, fun _ => l_X3_part_131 ⟨fun _ => ⟨fun _ => ?_, fun y => by omega⟩, fun y => absurd rfl y⟩⟩
      exact lp_part167 (dep := dep) H rfl ⟨hi.1, Int.le_refl _⟩ hl.2.2 R2.2.2 cp (o := ptF 0 (X.c i)) (a := 0) (Or.inr (Or.inl ⟨nr, by rw [c0], cv, Or.inl c0, rfl, rfl⟩)) c (s := 2) rfl (Or.inr ⟨rfl, ef.symm, by omega, by omega, by omega⟩) (fun h' i' p' ln' x R => kO h' i' p' ln' x R True.intro True.intro)
  · have c1 : X.mode = 1 := by omega
    rw [ptF_o]
    have R := ptF_R X.mode (X.c i)
    rw [c1] at R
    have nr : ¬ rpN X i := fun y => cn y.1
    by_cases cv : ptF 1 (X.c i) = -1
    · rw [if_pos cv]
      exact ⟨fun _ => kN h (RNo.at H (ToF.part0 L md c (Or.inr ⟨nr, by rw [c1]; exact cv⟩))), fun y => absurd rfl y⟩
    · rw [if_neg cv]
      have R2 : 1 ≤ ptF 1 (X.c i) ∧ ptF 1 (X.c i) ≤ 7 ∧ X.c i ≠ -1 := by
        have : ptF 1 (X.c i) ≤ 7 := by
          unfold ptF
          rw [if_neg (by decide)]
          (repeat' split) <;> omega
        omega
      have em : mX X.mode = 37 := by
        unfold mX
        rw [if_neg (by omega)]
      have efx : ∀ a, fiX X.mode (ptF 1 (X.c i)) a = fiX 1 (ptF 1 (X.c i)) a := fun a => by rw [c1]
      obtain ⟨o, eo⟩ : ∃ o, ptF 1 (X.c i) = o := ⟨_, rfl⟩
      rw [eo] at R2 efx cv ⊢
      have ef : (o < 5 ∧ (fiX 1 o 0 = 9 ∨ 11 ≤ fiX 1 o 0) ∧ fiX 1 o 0 ≤ 13) ∨ (5 ≤ o ∧ 14 ≤ fiX 1 o 0 ∧ fiX 1 o 0 ≤ 30 ∧ ∀ a, fiX 1 o a = fiX 1 o 0 + a) := by
        have k : o = 1 ∨ o = 2 ∨ o = 3 ∨ o = 4 ∨ o = 5 ∨ o = 6 ∨ o = 7 := by omega
        rcases k with k | k | k | k | k | k | k <;> subst k <;> simp [fiX]
      refine ⟨fun y => by omega, fun _ => l_X3_part_131 ⟨fun _ => ⟨fun y => ?_, fun y => ⟨pre, fun h1 e1 => ?_⟩⟩, fun y => absurd rfl y⟩⟩
      · exact lp_part167 (dep := dep) H rfl ⟨hi.1, Int.le_refl _⟩ hl.2.2 R2.2.2 cp (o := o) (a := 0) (Or.inr (Or.inl ⟨nr, by rw [c1, eo], cv, Or.inr (by omega), rfl, rfl⟩)) c (s := 2) rfl (Or.inr ⟨rfl, (efx 0).symm, by omega, by rw [efx 0]; omega, by rw [efx 0]; omega⟩) (fun h' i' p' ln' x R => kO h' i' p' ln' x R True.intro True.intro)
      · subst e1
        have A := H.adv R2.2.2
        refine ⟨by have := A.1.pre; omega, ?_⟩
        rw [A.1.nF rfl]
        by_cases c7 : X.c (i + 1) = 256 ∧ X.v (i + 1) ≤ 7
        · have v0 := v_nn L A.1.2.2.2.2.1 c7.1
          rw [if_pos c7]
          refine ⟨fun y => by omega, fun _ => ⟨by omega, ?_⟩⟩
          have e2 : fiX X.mode o (X.v (i + 1)) = fiX 1 o 0 + X.v (i + 1) := by
            rw [efx]
            rcases ef with ef | ef
            · omega
            · exact ef.2.2.2 _
          refine lp_part167 (dep := dep) A.1 A.2 ⟨hi.1, by omega⟩ hl.2.2 (by omega) cp (o := o) (a := X.v (i + 1)) (Or.inr (Or.inr ⟨nr, by rw [c1, eo], by omega, c1, c7.1, c7.2, rfl, by omega⟩)) c (s := 2) rfl (Or.inr ⟨rfl, e2.symm, by omega, by omega, by omega⟩) (fun h' i' p' ln' x R => kO h' i' p' ln' x R True.intro True.intro)
        · rw [if_neg c7]
          refine ⟨fun _ => kN _ (RNo.at A.1 (ToF.partD L c1 c cp nr (by rw [c1, eo]; omega) c7)), fun y => absurd rfl y⟩
/-! sums -/
theorem sg_of {c : Int} (h : c = 43 ∨ c = 45 ∨ c = 42 ∨ c = 47 ∨ c = 37) : ∃ o, (20 ≤ o ∧ o ≤ 24) ∧ c = sgO o ∧ ((c = 43 ∨ c = 45) → zbin o = 5) ∧ ((c = 42 ∨ c = 47 ∨ c = 37) → zbin o = 6) := by
  rcases h with h | h | h | h | h <;> subst h
  · exact ⟨20, by decide⟩
  · exact ⟨21, by decide⟩
  · exact ⟨22, by decide⟩
  · exact ⟨23, by decide⟩
  · exact ⟨24, by decide⟩
def mul3 (c : Int) : Prop := c = 42 ∨ c = 47 ∨ c = 37
def add2 (c : Int) : Prop := c = 43 ∨ c = 45
theorem lp_sum {D : Nat} {y1 lv : Int} {st : Int → Prop} (hlv : (y1 = 0 ∧ lv = 5) ∨ (y1 = 1 ∧ lv = 6)) (hst : ∀ c, st c → y1 = 0 → ¬ mul3 c)
    (hC : ∀ (Q : Option AV → AH → Prop) (h : AH) (i p ln : Int), XP X z h0 h i p ln → (∀ h' i' p' ln' x, ROk X z h0 h (lv + 1) (lv + 1) dep i p ln h' i' p' ln' x → st (X.c i') → Q (some (vI 1)) h') → (∀ h', RNo X h0 (lv + 1) dep i p h' → Q (some (vI 0)) h') → (y1 = 0 → WM GX D 0 mX3_sum [vR (some 31), vI 1, vI dep] h Q) ∧ (¬ y1 = 0 → WM GX D 0 mX3_part [vR (some 31), vI dep] h Q))
    {b : Nat} {Q : Option AV → AH → Prop} {h : AH} {i p ln : Int} (hz : 0 ≤ i ∧ 0 ≤ ln ∧ ln ≤ 2 * i + z)
    (kO : ∀ h' i' p' ln' x, ROk X z h0 h lv lv dep i p ln h' i' p' ln' x → (if y1 = 0 then bop (X.c i') = -1 else ¬ mul3 (X.c i')) → Q (some (vI 1)) h') (kN : ∀ h', RNo X h0 lv dep i p h' → Q (some (vI 0)) h') :
    ∀ (f : Nat) (n : Int) (h' : AH) (i' p' ln' : Int) (x : Vl), X.m ≤ i' + f → ROk X z h0 h lv lv dep i p ln h' i' p' ln' x → st (X.c i') → 0 ≤ n → 2 * n ≤ i' → Lp_X3_sum_22 D b Q y1 dep 1 n h'
  | 0, n, h', i', p', ln', x, hf, R, _, _, _ => by
    have := R.1.2.2.2.2.1
    omega
  | f + 1, n, h', i', p', ln', x, hf, R, sti, n0, n2 => by
    have L := R.1.L
    have m := L.m1
    have hi := R.1.2.2.2.2.1
    have e5 := R.1.2.1
    have sp := hst _ sti
    have st2 : ∀ c : Int, X.c i' = c → (c = 43 ∨ c = 45 ∨ c = 42 ∨ c = 47 ∨ c = 37) → (y1 = 0 → add2 c) → (y1 = 1 → mul3 c) → Lp_X3_sum_108 D b Q y1 dep n c h' := fun c ec h5 a1 a2 => by
      obtain ⟨o, o1, o2, o3, o4⟩ := sg_of h5
      have ez : zbin o = lv := by
        rcases hlv with ⟨q1, q2⟩ | ⟨q1, q2⟩
        · rw [q2]
          exact o3 (a1 q1)
        · rw [q2]
          exact o4 (a2 q1)
      have cn : X.c i' ≠ -1 := by omega
      have A := R.1.adv cn
      refine l_X3_sum_108 ⟨R.1.pre, fun h1 e1 => ?_⟩
      subst e1
      have r2 := R.2.1
      have C := fun Q kO' kN' => hC Q _ (i' + 1) p' ln' A.1 kO' kN'
      have fin : ∀ (Q' : Option AV → AH → Prop), (∀ u h2, Lp_X3_sum_131 D b Q y1 dep u n c h2 → Q' (some (vI u)) h2) → (∀ h2 i2 p2 ln2 y, ROk X z h0 (advX h') (lv + 1) (lv + 1) dep (i' + 1) p' ln' h2 i2 p2 ln2 y → st (X.c i2) → Q' (some (vI 1)) h2) ∧ (∀ h2, RNo X h0 (lv + 1) dep (i' + 1) p' h2 → Q' (some (vI 0)) h2) := fun Q' hQ => by
        refine ⟨fun h2 i2 p2 ln2 y R2 st2 => hQ _ _ ?_, fun h2 R2 => hQ _ _ ?_⟩
        · have q2 := R2.2.1
          have B := R2.1.add c 0 (by omega)
          refine l_X3_sum_131 ⟨R2.1.preL, fun h3 e3 => ⟨by omega, ?_⟩⟩
          subst e3
          refine lp_sum hlv hst hC hz kO kN f (n + 1) _ i2 p2 (ln2 + 2) (vBin o x y) (by have := R2.1.2.2.2.2.1; omega) ⟨B.1, by omega, fun k hk => ?_, ?_, VB.bin, ToS.bin L o1 ez R.2.2.2.2.2 (ec.trans o2) R2.2.2.2.2.2⟩ st2 (by omega) (by omega)
          · rw [B.2.1 k (by omega), R2.2.2.1 k (by omega), A.2, R.2.2.1 k hk]
          · have q := XS.bin (m := mX X.mode) (s := gi (addX h2 c 0) 37) (o := o) (R.2.2.2.1.congr (fun k k0 k1 => by rw [B.2.1 k (by omega), R2.2.2.1 k k1, A.2])) (R2.2.2.2.1.congr (fun k k0 k1 => B.2.1 k k1)) (B.2.2.1.trans o2) B.2.2.2 (by omega)
            rwa [show p' - p + (p2 - p') = p2 - p by omega] at q
        · refine l_X3_sum_131 ⟨R2.2.2.1, fun h3 e3 => ⟨by omega, ?_⟩⟩
          subst e3
          have N : RNo X h0 lv dep i p (addX h2 c 0) := (R2.toF (fun j F => ToF.bin L o1 ez R.2.2.2.2.2 (ec.trans o2) F)).add
          exact l_X3_sum_22 ⟨fun _ => ⟨Or.inl rfl, kN _ N⟩, fun _ => ⟨fun _ => ⟨Or.inl rfl, kN _ N⟩, fun y => absurd rfl y⟩⟩
      refine ⟨fun c0 => ?_, fun c0 => ?_⟩
      · obtain ⟨g1, g2⟩ := fin (fun r h3 => ∃ u4, r = some (vI u4) ∧ Lp_X3_sum_131 D b Q y1 dep u4 n c h3) (fun u h2 q => ⟨u, rfl, q⟩)
        exact (C _ g1 g2).1 c0
      · obtain ⟨g1, g2⟩ := fin (fun r h3 => ∃ u4, r = some (vI u4) ∧ Lp_X3_sum_131 D b Q y1 dep u4 n c h3) (fun u h2 q => ⟨u, rfl, q⟩)
        exact (C _ g1 g2).2 c0
    have stop : ¬ (y1 = 0 ∧ add2 (X.c i')) → ¬ (y1 = 1 ∧ mul3 (X.c i')) → Q (some (vI 1)) h' := fun s1 s2 => by
      refine kO h' i' p' ln' x R ?_
      by_cases c0 : y1 = 0
      · rw [if_pos c0]
        have a1 : ¬ add2 (X.c i') := fun y => s1 ⟨c0, y⟩
        have a2 := sp c0
        unfold add2 at a1
        unfold mul3 at a2
        unfold bop
        (repeat' split) <;> omega
      · rw [if_neg c0]
        exact fun y => s2 ⟨by omega, y⟩
    have r6 : ∀ y6 : Int, (y6 = 1 → add2 (X.c i')) → (y6 = 0 → ¬ add2 (X.c i')) → (y6 = 0 ∨ y6 = 1) → Lp_X3_sum_61 D b Q y1 dep n (X.c i') y6 h' := fun y6 a1 a0 a01 => by
      have r7 : ∀ y7 : Int, (y7 = 1 → mul3 (X.c i')) → (y7 = 0 → ¬ mul3 (X.c i')) → (y7 = 0 ∨ y7 = 1) → Lp_X3_sum_89 D b Q y1 dep n (X.c i') y6 y7 h' := fun y7 b1 b0 b01 => by
        refine l_X3_sum_89 ⟨fun c0 => ⟨fun c6 => stop (fun y => a0 c6 y.2) (fun y => by omega), fun c6 => ?_⟩, fun c0 => ⟨fun c7 => stop (fun y => c0 y.1) (fun y => b0 c7 y.2), fun c7 => ?_⟩⟩
        · have a := a1 (by omega)
          exact st2 _ rfl (by unfold add2 at a; omega) (fun _ => a) (fun y => by omega)
        · have a := b1 (by omega)
          exact st2 _ rfl (by unfold mul3 at a; omega) (fun y => by omega) (fun _ => a)
      refine l_X3_sum_61 ⟨fun c => r7 1 (fun _ => Or.inl c) (fun y => by omega) (Or.inr rfl), fun c1 => ⟨fun c => r7 1 (fun _ => Or.inr (Or.inl c)) (fun y => by omega) (Or.inr rfl), fun c2 => ⟨fun c => r7 1 (fun _ => Or.inr (Or.inr c)) (fun y => by omega) (Or.inr rfl), fun c3 => r7 0 (fun y => by omega) (fun _ y => by unfold mul3 at y; omega) (Or.inl rfl)⟩⟩⟩
    refine l_X3_sum_22 ?_
    rw [e5]
    refine ⟨fun y => by omega, fun _ => ⟨fun y => by omega, fun _ => ⟨fun c => r6 1 (fun _ => Or.inl c) (fun y => by omega) (Or.inr rfl), fun c1 => ⟨fun c => r6 1 (fun _ => Or.inr c) (fun y => by omega) (Or.inr rfl), fun c2 => r6 0 (fun y => by omega) (fun _ y => by unfold add2 at y; omega) (Or.inl rfl)⟩⟩⟩⟩
theorem x_term {D : Nat} (hP : SpX X z h0 mX3_part [vR (some 31), vI dep] D 7 7 dep (fun _ => True) (fun _ => True)) : SpX X z h0 mX3_sum [vR (some 31), vI 1, vI dep] (D + 1) 6 6 dep (fun c => ¬ mul3 c) (fun _ => True) := by
  intro e b Q h i p ln H kO kN
  have hl := H.2.2.2.2.2.2.1
  have hi := H.2.2.2.2.1
  refine WM_d (show D + e + 1 = D + 1 + e by omega) (w_X3_sum ⟨fun y => by omega, fun _ => ?_⟩)
  refine hP e 0 _ h i p ln H (fun h' i' p' ln' x R _ _ => ⟨1, rfl, ?_⟩) (fun h' R => ⟨0, rfl, ?_⟩)
  · have r2 := R.2.1
    have hm := R.1.2.2.2.2.1
    refine lp_sum (y1 := 1) (lv := 6) (st := fun _ => True) (Or.inr ⟨rfl, rfl⟩) (fun c _ y => by omega) (fun Q' h2 i2 p2 ln2 H2 a1 a2 => ⟨fun y => by omega, fun _ => hP e 0 Q' h2 i2 p2 ln2 H2 (fun h' i' p' ln' x R _ _ => a1 h' i' p' ln' x R True.intro) a2⟩) ⟨hi.1, hl.1, hl.2.2⟩ (fun h' i' p' ln' x R s => kO h' i' p' ln' x R (by rwa [if_neg (show ¬ (1 : Int) = 0 by decide)] at s) True.intro) kN (X.m - i').toNat 0 h' i' p' ln' x (by omega) (R.mono (by decide) (by decide) (by omega)) True.intro (Int.le_refl _) (by omega)
  · exact l_X3_sum_22 ⟨fun _ => ⟨Or.inl rfl, kN _ (R.mono (by decide) (by omega))⟩, fun _ => ⟨fun _ => ⟨Or.inl rfl, kN _ (R.mono (by decide) (by omega))⟩, fun y => absurd rfl y⟩⟩
theorem x_sum {D : Nat} (hP : SpX X z h0 mX3_sum [vR (some 31), vI 1, vI dep] D 6 6 dep (fun c => ¬ mul3 c) (fun _ => True)) : SpX X z h0 mX3_sum [vR (some 31), vI 0, vI dep] (D + 1) 5 5 dep (fun c => bop c = -1) (fun _ => True) := by
  intro e b Q h i p ln H kO kN
  have hl := H.2.2.2.2.2.2.1
  have hi := H.2.2.2.2.1
  refine WM_d (show D + e + 1 = D + 1 + e by omega) (w_X3_sum ⟨fun _ => ?_, fun y => absurd rfl y⟩)
  refine hP e 0 _ h i p ln H (fun h' i' p' ln' x R st _ => ⟨1, rfl, ?_⟩) (fun h' R => ⟨0, rfl, ?_⟩)
  · have r2 := R.2.1
    have hm := R.1.2.2.2.2.1
    refine lp_sum (y1 := 0) (lv := 5) (st := fun c => ¬ mul3 c) (Or.inl ⟨rfl, rfl⟩) (fun c s _ => s) (fun Q' h2 i2 p2 ln2 H2 a1 a2 => ⟨fun _ => hP e 0 Q' h2 i2 p2 ln2 H2 (fun h' i' p' ln' x R s _ => a1 h' i' p' ln' x R s) a2, fun y => absurd rfl y⟩) ⟨hi.1, hl.1, hl.2.2⟩ (fun h' i' p' ln' x R s => kO h' i' p' ln' x R (by rwa [if_pos rfl] at s) True.intro) kN (X.m - i').toNat 0 h' i' p' ln' x (by omega) (R.mono (by decide) (by decide) (by omega)) st (Int.le_refl _) (by omega)
  · exact l_X3_sum_22 ⟨fun _ => ⟨Or.inl rfl, kN _ (R.mono (by decide) (by omega))⟩, fun _ => ⟨fun _ => ⟨Or.inl rfl, kN _ (R.mono (by decide) (by omega))⟩, fun y => absurd rfl y⟩⟩
end XFUN
