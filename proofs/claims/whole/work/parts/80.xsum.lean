/-! the class reads: parts, sums -/
theorem LxOK.c_R {X : Txt} (L : LxOK X) {i : Int} (hi : 0 ≤ i ∧ i < X.m) : -1 ≤ X.c i ∧ X.c i ≤ 300 := by
  have q := L.pl0 hi
  unfold Txt.c cdF
  split
  · omega
  · split
    · have := wFind_R wds 258 (lets X.T (X.pl i) (tEnd X.T X.n (X.pl i) - X.pl i).toNat) (by decide)
      unfold wCode
      have l : wds.length = 30 := by decide
      omega
    · split
      · omega
      · have := L.by_ (X.pl i) q.1 (by omega)
        omega
section XFUN
variable {X : Txt} {z : Int} {h0 : AH} {dep : Int}
theorem lp_part166 {d b : Nat} {Q : Option AV → AH → Prop} {h h1 : AH} {i p ln i1 s v o a n : Int} (H : XP X z h0 h1 i1 p ln) (h37 : gi h1 37 = gi h 37) (H0 : 0 ≤ i ∧ i ≤ i1) (hl0 : ln ≤ 2 * i + z) (hc : X.c i1 ≠ -1) (hp : p < 50) (pt : PtOk X i o a (i1 + 1)) (hci : X.c i ≠ 91) (hn : s = if n = 0 then 2 else 1)
    (hs : (s = 1 ∧ v = a ∧ o = 0 ∧ -1000000000 ≤ a ∧ a ≤ 1000000000) ∨ (s = 2 ∧ v = fiX X.mode o a ∧ o ≠ 0 ∧ okF (mX X.mode) (fiX X.mode o a)))
    (K : ∀ h' i' p' ln' x, ROk X z h0 h 7 7 dep i p ln h' i' p' ln' x → Q (some (vI 1)) h') : Lp_X3_part_166 d b Q n v h1 := by
  obtain ⟨s1, s2, s3, s4⟩ := x_step (dep := dep) H h37 H0 (by omega) hl0 hc hp pt hci hs
  by_cases c : n = 0
  · rw [if_pos c] at hn
    subst hn
    exact l_X3_part_166 ⟨fun _ => ⟨s2, fun h2 e2 => by subst e2; exact ⟨s3, fun h3 e3 => by subst e3; exact ⟨s4, fun h4 e4 => by subst e4; exact K _ _ _ _ _ s1⟩⟩⟩, fun y => absurd c y⟩
  · rw [if_neg c] at hn
    subst hn
    exact l_X3_part_166 ⟨fun y => absurd y c, fun _ => ⟨s2, fun h2 e2 => by subst e2; exact ⟨s3, fun h3 e3 => by subst e3; exact ⟨s4, fun h4 e4 => by subst e4; exact K _ _ _ _ _ s1⟩⟩⟩⟩
theorem x_part {D : Nat} (hd : 0 ≤ dep ∧ dep ≤ 8) (hS : dep < 8 → SpX X z h0 mX3_sum [vR (some 31), vI (dep + 1)] D 5 5 (dep + 1) (fun c => bop c = -1) (fun _ => True)) : SpX X z h0 mX3_part [vR (some 31), vI dep] (D + 1) 7 7 dep (fun _ => True) (fun _ => True) := by
  intro e b Q h i p ln H kO kN
  have L := H.L
  have md := H.md
  have e5 := H.2.1
  have e6 := H.2.2.1
  have e7 : gi h 31 7 = X.mode := (H.2.2.2.2.2.2.2.1.1 _ _ (by omega)).trans H.2.2.2.2.2.2.2.2.2.2.1
  have hi := H.2.2.2.2.1
  have hl := H.2.2.2.2.2.2.1
  have pre := H.pre
  have cR := L.c_R hi
  refine WM_d (show D + e + 1 = D + 1 + e by omega) (w_X3_part ?_)
  rw [e5, e6, e7]
  refine ⟨fun c => ⟨fun c8 => ⟨pre, fun h1 e1 => ⟨by omega, ?_⟩⟩, fun c8 => kN h (RNo.at H (ToF.sq0 c c8))⟩, fun c => ⟨fun cp => ⟨fun cn => ⟨by omega, ?_⟩, fun cn => ⟨fun c0 => ⟨by omega, ?_⟩, fun c0 => ⟨by omega, ?_⟩⟩⟩, fun cp => kN h (RNo.at H (ToF.part0 L md c (Or.inl (by omega))))⟩⟩
  · subst e1
    have A := H.adv (by omega)
    refine hS c8 e 0 _ _ (i + 1) p ln A.1 (fun h2 i2 p2 ln2 x R st _ => ⟨1, rfl, fun y => by omega, fun _ => ?_⟩) (fun h2 R => ⟨0, rfl, fun _ => ?_, fun y => absurd rfl y⟩)
    · rw [R.1.2.1]
      refine ⟨fun c2 => ⟨R.1.pre, fun h3 e3 => ?_⟩, fun c2 => kN h2 (RNo.at R.1 (ToF.sq2 L c c8 R.2.2.2.2.2 st c2))⟩
      subst e3
      have B := R.1.adv (by omega)
      refine kO _ (i2 + 1) p2 ln2 x ⟨B.1, by have := R.2.1; omega, fun k hk => ?_, ?_, R.2.2.2.2.1, ToS.sq L c c8 R.2.2.2.2.2 st c2⟩ True.intro True.intro
      · rw [B.2, R.2.2.1 k hk, A.2]
      · rw [B.2]
        exact R.2.2.2.1
    · exact kN h2 (R.toF (fun j F => ToF.sq1 L c c8 F))
  · rw [H.nF rfl]
    by_cases cv : X.v i ≤ 1000
    · have v0 := v_nn L hi cn
      rw [if_pos ⟨cn, cv⟩]
      refine ⟨fun y => by omega, fun _ => l_X3_part_130 ⟨fun y => by omega, fun _ => ?_⟩⟩
      exact lp_part166 (dep := dep) H rfl ⟨hi.1, Int.le_refl _⟩ hl.2.2 (by omega) cp (o := 0) (a := X.v i) (Or.inl ⟨⟨cn, cv⟩, rfl, rfl, rfl⟩) c (s := 1) rfl (Or.inl ⟨rfl, rfl, rfl, by omega, by omega⟩) (fun h' i' p' ln' x R => kO h' i' p' ln' x R True.intro True.intro)
    · rw [if_neg (fun y => cv y.2)]
      refine ⟨fun _ => kN h (RNo.at H (ToF.part0 L md c (Or.inr ⟨fun y => cv y.2, ?_⟩))), fun y => absurd rfl y⟩
      rw [cn]
      exact ptF_256 _
  · rw [ptF_l]
    have R := ptF_R X.mode (X.c i)
    rw [c0] at R
    have nr : ¬ rpN X i := fun y => cn y.1
    by_cases cv : ptF 0 (X.c i) = -1
    · rw [if_pos cv]
      exact ⟨fun _ => kN h (RNo.at H (ToF.part0 L md c (Or.inr ⟨nr, by rw [c0]; exact cv⟩))), fun y => absurd rfl y⟩
    · rw [if_neg cv]
      have R2 : 1 ≤ ptF 0 (X.c i) ∧ ptF 0 (X.c i) ≤ 11 ∧ X.c i ≠ -1 := by omega
      have ef : fiX X.mode (ptF 0 (X.c i)) 0 = ptF 0 (X.c i) - 1 := by
        unfold fiX
        rw [if_pos c0]
      have em : mX X.mode = 10 := by
        unfold mX
        rw [if_pos c0]
      refine ⟨fun y => by omega, fun _ => l_X3_part_130 ⟨fun _ => ⟨fun _ => ?_, fun y => by omega⟩, fun y => absurd rfl y⟩⟩
      exact lp_part166 (dep := dep) H rfl ⟨hi.1, Int.le_refl _⟩ hl.2.2 R2.2.2 cp (o := ptF 0 (X.c i)) (a := 0) (Or.inr (Or.inl ⟨nr, by rw [c0], cv, Or.inl c0, rfl, rfl⟩)) c (s := 2) rfl (Or.inr ⟨rfl, ef.symm, by omega, by omega, by omega⟩) (fun h' i' p' ln' x R => kO h' i' p' ln' x R True.intro True.intro)
  · have c1 : X.mode = 1 := by omega
    rw [ptF_o]
    have R := ptF_R X.mode (X.c i)
    rw [c1] at R
    have nr : ¬ rpN X i := fun y => cn y.1
    by_cases cv : ptF 1 (X.c i) = -1
    · rw [if_pos cv]
      exact ⟨fun _ => kN h (RNo.at H (ToF.part0 L md c (Or.inr ⟨nr, by rw [c1]; exact cv⟩))), fun y => absurd rfl y⟩
    · rw [if_neg cv]
      have R2 : 1 ≤ ptF 1 (X.c i) ∧ ptF 1 (X.c i) ≤ 7 ∧ X.c i ≠ -1 := by
        have : ptF 1 (X.c i) ≤ 7 := by
          unfold ptF
          rw [if_neg (by decide)]
          (repeat' split) <;> omega
        omega
      have em : mX X.mode = 37 := by
        unfold mX
        rw [if_neg (by omega)]
      have efx : ∀ a, fiX X.mode (ptF 1 (X.c i)) a = fiX 1 (ptF 1 (X.c i)) a := fun a => by rw [c1]
      obtain ⟨o, eo⟩ : ∃ o, ptF 1 (X.c i) = o := ⟨_, rfl⟩
      rw [eo] at R2 efx cv ⊢
      have ef : (o < 5 ∧ (fiX 1 o 0 = 9 ∨ 11 ≤ fiX 1 o 0) ∧ fiX 1 o 0 ≤ 13) ∨ (5 ≤ o ∧ 14 ≤ fiX 1 o 0 ∧ fiX 1 o 0 ≤ 30 ∧ ∀ a, fiX 1 o a = fiX 1 o 0 + a) := by
        have k : o = 1 ∨ o = 2 ∨ o = 3 ∨ o = 4 ∨ o = 5 ∨ o = 6 ∨ o = 7 := by omega
        rcases k with k | k | k | k | k | k | k <;> subst k <;> simp [fiX]
      refine ⟨fun y => by omega, fun _ => l_X3_part_130 ⟨fun _ => ⟨fun y => ?_, fun y => ⟨pre, fun h1 e1 => ?_⟩⟩, fun y => absurd rfl y⟩⟩
      · exact lp_part166 (dep := dep) H rfl ⟨hi.1, Int.le_refl _⟩ hl.2.2 R2.2.2 cp (o := o) (a := 0) (Or.inr (Or.inl ⟨nr, by rw [c1, eo], cv, Or.inr (by omega), rfl, rfl⟩)) c (s := 2) rfl (Or.inr ⟨rfl, (efx 0).symm, by omega, by rw [efx 0]; omega, by rw [efx 0]; omega⟩) (fun h' i' p' ln' x R => kO h' i' p' ln' x R True.intro True.intro)
      · subst e1
        have A := H.adv R2.2.2
        refine ⟨by have := A.1.pre; omega, ?_⟩
        rw [A.1.nF rfl]
        by_cases c7 : X.c (i + 1) = 256 ∧ X.v (i + 1) ≤ 7
        · have v0 := v_nn L A.1.2.2.2.2.1 c7.1
          rw [if_pos c7]
          refine ⟨fun y => by omega, fun _ => ⟨by omega, ?_⟩⟩
          have e2 : fiX X.mode o (X.v (i + 1)) = fiX 1 o 0 + X.v (i + 1) := by
            rw [efx]
            rcases ef with ef | ef
            · omega
            · exact ef.2.2.2 _
          refine lp_part166 (dep := dep) A.1 A.2 ⟨hi.1, by omega⟩ hl.2.2 (by omega) cp (o := o) (a := X.v (i + 1)) (Or.inr (Or.inr ⟨nr, by rw [c1, eo], by omega, c1, c7.1, c7.2, rfl, by omega⟩)) c (s := 2) rfl (Or.inr ⟨rfl, e2.symm, by omega, by omega, by omega⟩) (fun h' i' p' ln' x R => kO h' i' p' ln' x R True.intro True.intro)
        · rw [if_neg c7]
          refine ⟨fun _ => kN _ (RNo.at A.1 (ToF.partD L c1 c cp nr (by rw [c1, eo]; omega) c7)), fun y => absurd rfl y⟩
/-! sums -/
theorem sg_of {c : Int} (h : c = 43 ∨ c = 45 ∨ c = 42 ∨ c = 47 ∨ c = 37) : ∃ o, (20 ≤ o ∧ o ≤ 24) ∧ c = sgO o ∧ ((c = 43 ∨ c = 45) → zbin o = 5) ∧ ((c = 42 ∨ c = 47 ∨ c = 37) → zbin o = 6) := by
  rcases h with h | h | h | h | h <;> subst h
  · exact ⟨20, by decide⟩
  · exact ⟨21, by decide⟩
  · exact ⟨22, by decide⟩
  · exact ⟨23, by decide⟩
  · exact ⟨24, by decide⟩
def mul3 (c : Int) : Prop := c = 42 ∨ c = 47 ∨ c = 37
def add2 (c : Int) : Prop := c = 43 ∨ c = 45
/-- a SUM so far, behind whose sign a TERM begins -/
def Lft (X : Txt) (z : Int) (h0 h : AH) (dep i p ln : Int) (hT : AH) (i1 pT lT : Int) (x : Vl) : Prop :=
  XP X z h0 hT (i1 + 1) pT lT ∧ (i < i1 ∧ p < pT ∧ ln < lT ∧ lT ≤ ln + 2 * (i1 - i)) ∧ (∀ k, k < ln → gi hT 37 k = gi h 37 k) ∧ XS (mX X.mode) (gi hT 37) ln lT (pT - p) x ∧ ToS X 5 5 dep i p i1 pT x
/-- what stands ahead of the TERM that is read; w: the sign that waits, -1: none -/
def Ctx (X : Txt) (z : Int) (h0 h : AH) (dep i p ln w : Int) (hT : AH) (iT pT lT : Int) : Prop :=
  (w = -1 ∧ hT = h ∧ iT = i ∧ pT = p ∧ lT = ln) ∨ (add2 w ∧ ∃ i1 x, iT = i1 + 1 ∧ X.c i1 = w ∧ Lft X z h0 h dep i p ln hT i1 pT lT x)
section CTX
variable {h h' hT hB : AH} {i p ln w iT pT lT i' p' ln' : Int} {y : Vl}
theorem Ctx.bd (C : Ctx X z h0 h dep i p ln w hT iT pT lT) (hw : w ≠ -1) : lT + 2 ≤ ln + 2 * (iT - i) := by
  rcases C with ⟨c1, _⟩ | ⟨_, i1, x, c2, _, c4⟩
  · exact absurd c1 hw
  · have := c4.2.1
    omega
theorem Ctx.no (L : LxOK X) (C : Ctx X z h0 h dep i p ln w hT iT pT lT) (R : RNo X h0 6 dep iT pT h') : RNo X h0 5 dep i p h' := by
  rcases C with ⟨c1, c2, c3, c4, c5⟩ | ⟨c1, i1, x, c2, c3, c4⟩
  · rw [c3, c4] at R
    exact R.mono (by decide) (by omega)
  · obtain ⟨o, o1, o2, o3, o4⟩ := sg_of (c := w) (by unfold add2 at c1; omega)
    rw [c2] at R
    exact R.toF (fun j F => ToF.bin (lv := 5) L o1 (o3 c1) c4.2.2.2.2 (c3.trans o2) F)
theorem Ctx.close (L : LxOK X) (C : Ctx X z h0 h dep i p ln w hT iT pT lT) (R : ROk X z h0 hT 6 6 dep iT pT lT h' i' p' ln' y) (hw : w ≠ -1) (k1 : ∀ k, k < ln' → gi hB 37 k = gi h' 37 k) (k2 : gi hB 37 ln' = w) (k3 : gi hB 37 (ln' + 1) = 0) :
    ∃ v, (i < i' ∧ p < p' ∧ ln < ln' + 2 ∧ ln' + 2 ≤ ln + 2 * (i' - i)) ∧ (∀ k, k < ln → gi hB 37 k = gi h 37 k) ∧ XS (mX X.mode) (gi hB 37) ln (ln' + 2) (p' - p) v ∧ VB (mX X.mode) v ∧ ToS X 5 5 dep i p i' p' v := by
  rcases C with ⟨c1, _⟩ | ⟨c1, i1, x, c2, c3, f1, f2, f3, f4, f5⟩
  · exact absurd c1 hw
  obtain ⟨o, o1, o2, o3, o4⟩ := sg_of (c := w) (by unfold add2 at c1; omega)
  subst c2
  have r2 := R.2.1
  refine ⟨vBin o x y, by omega, fun k hk => by rw [k1 k (by omega), R.2.2.1 k (by omega), f3 k hk], ?_, VB.bin, ToS.bin (lv := 5) L o1 (o3 c1) f5 (c3.trans o2) R.2.2.2.2.2⟩
  have q := XS.bin (m := mX X.mode) (s := gi hB 37) (o := o) (f4.congr (fun k a b => by rw [k1 k (by omega), R.2.2.1 k (by omega)])) (R.2.2.2.1.congr (fun k a b => k1 k (by omega))) (k2.trans o2) k3 (by omega)
  rwa [show pT - p + (p' - pT) = p' - p by omega] at q
end CTX
theorem lp_sum {D : Nat}
    (hP : ∀ (Q : Option AV → AH → Prop) (h : AH) (i p ln : Int), XP X z h0 h i p ln → (∀ h' i' p' ln' x, ROk X z h0 h 7 7 dep i p ln h' i' p' ln' x → Q (some (vI 1)) h') → (∀ h', RNo X h0 7 dep i p h' → Q (some (vI 0)) h') → WM GX D 0 mX3_part [vR (some 31), vI dep] h Q)
    {b : Nat} {Q : Option AV → AH → Prop} {h : AH} {i p ln : Int} (hz : 0 ≤ i ∧ 0 ≤ ln ∧ ln ≤ 2 * i + z)
    (kO : ∀ h' i' p' ln' x, ROk X z h0 h 5 5 dep i p ln h' i' p' ln' x → bop (X.c i') = -1 → Q (some (vI 1)) h') (kN : ∀ h', RNo X h0 5 dep i p h' → Q (some (vI 0)) h') :
    ∀ (f : Nat) (n w : Int) (hT : AH) (iT pT lT : Int) (h' : AH) (i' p' ln' : Int) (x : Vl), X.m ≤ i' + f → Ctx X z h0 h dep i p ln w hT iT pT lT → ROk X z h0 hT 6 6 dep iT pT lT h' i' p' ln' x → 0 ≤ n → 2 * n ≤ i' → Lp_X3_sum_11 D b Q dep 1 w n h'
  | 0, n, w, hT, iT, pT, lT, h', i', p', ln', x, hf, C, R, _, _ => by
    have := R.1.2.2.2.2.1
    omega
  | f + 1, n, w, hT, iT, pT, lT, h', i', p', ln', x, hf, C, R, n0, n2 => by
    have L := R.1.L
    have m := L.m1
    have hi := R.1.2.2.2.2.1
    have e5 := R.1.2.1
    have r2 := R.2.1
    have rl := R.1.2.2.2.2.2.2.1
    have dead : ∀ (w2 n2 : Int) (h2 : AH), 0 ≤ n2 ∧ n2 ≤ 1000 → RNo X h0 5 dep i p h2 → Lp_X3_sum_143 D b Q dep 0 w2 n2 h2 := fun w2 n2 h2 hn N => by
      have e149 : Lp_X3_sum_149 D b Q 0 w2 h2 := l_X3_sum_149 ⟨fun _ => ⟨Or.inl rfl, kN _ N⟩, fun _ => ⟨N.2.2.1, fun h3 e3 => ⟨Or.inl rfl, by subst e3; exact kN _ N.add⟩⟩⟩
      exact l_X3_sum_143 ⟨by omega, l_X3_sum_11 ⟨fun _ => e149, fun _ => ⟨fun _ => e149, fun y => absurd rfl y⟩⟩⟩
    have stop : bop (X.c i') = -1 → Lp_X3_sum_149 D b Q 1 w h' := fun sb => by
      refine l_X3_sum_149 ⟨fun c => ⟨Or.inr rfl, ?_⟩, fun c => ⟨R.1.preL, fun h1 e1 => ⟨Or.inr rfl, ?_⟩⟩⟩
      · rcases C with ⟨c1, c2, c3, c4, c5⟩ | ⟨c1, _⟩
        · rw [c2, c3, c4, c5] at R
          exact kO _ _ _ _ _ (R.mono (by decide) (by decide) (by omega)) sb
        · unfold add2 at c1
          omega
      · subst e1
        have B := R.1.add w 0 (by have := C.bd c; omega)
        obtain ⟨v, v1, v2, v3, v4, v5⟩ := C.close L R c B.2.1 B.2.2.1 B.2.2.2
        exact kO _ _ _ _ _ ⟨B.1, v1, v2, v3, v4, v5⟩ sb
    have mulB : mul3 (X.c i') → Lp_X3_sum_91 D b Q dep w n (X.c i') 0 1 h' := fun hm => by
      obtain ⟨o, o1, o2, o3, o4⟩ := sg_of (c := X.c i') (by unfold mul3 at hm; omega)
      have ez := o4 hm
      have cn : X.c i' ≠ -1 := by
        unfold mul3 at hm
        omega
      have A := R.1.adv cn
      refine l_X3_sum_91 ⟨R.1.pre, fun h1 e1 => ⟨fun _ => ?_, fun y => absurd rfl y⟩⟩
      subst e1
      refine l_X3_sum_114 ⟨fun _ => ?_, fun y => absurd rfl y⟩
      refine l_X3_sum_122 (hP _ _ (i' + 1) p' ln' A.1 (fun h2 i2 p2 ln2 y R2 => ⟨1, rfl, ?_⟩) (fun h2 R2 => ⟨0, rfl, ?_⟩))
      · have q2 := R2.2.1
        have B := R2.1.add (X.c i') 0 (by omega)
        refine l_X3_sum_128 ⟨fun y => by omega, fun _ => ⟨R2.1.preL, fun h3 e3 => ?_⟩⟩
        subst e3
        refine l_X3_sum_143 ⟨by omega, ?_⟩
        refine lp_sum hP hz kO kN f (n + 1) w hT iT pT lT _ i2 p2 (ln2 + 2) (vBin o x y) (by have := R2.1.2.2.2.2.1; omega) C ⟨B.1, by omega, fun k hk => ?_, ?_, VB.bin, ToS.bin (lv := 6) L o1 ez R.2.2.2.2.2 o2 R2.2.2.2.2.2⟩ (by omega) (by omega)
        · rw [B.2.1 k (by omega), R2.2.2.1 k (by omega), A.2, R.2.2.1 k hk]
        · have q := XS.bin (m := mX X.mode) (s := gi (addX h2 (X.c i') 0) 37) (o := o) (R.2.2.2.1.congr (fun k k0 k1 => by rw [B.2.1 k (by omega), R2.2.2.1 k k1, A.2])) (R2.2.2.2.1.congr (fun k k0 k1 => B.2.1 k k1)) (B.2.2.1.trans o2) B.2.2.2 (by omega)
          rwa [show p' - pT + (p2 - p') = p2 - pT by omega] at q
      · refine l_X3_sum_128 ⟨fun y => by omega, fun _ => ⟨R2.2.2.1, fun h3 e3 => ?_⟩⟩
        subst e3
        have N : RNo X h0 6 dep iT pT h2 := R2.toF (fun j F => ToF.bin (lv := 6) L o1 ez R.2.2.2.2.2 o2 F)
        exact dead _ _ _ (by omega) (C.no L N).add
    have addB : add2 (X.c i') → Lp_X3_sum_91 D b Q dep w n (X.c i') 1 0 h' := fun ha => by
      have cn : X.c i' ≠ -1 := by
        unfold add2 at ha
        omega
      have A := R.1.adv cn
      have cont : ∀ (hS : AH) (lS : Int), Ctx X z h0 h dep i p ln (X.c i') hS (i' + 1) p' lS → XP X z h0 hS (i' + 1) p' lS → Lp_X3_sum_114 D b Q dep w n (X.c i') 1 0 hS := fun hS lS C2 H2 => by
        refine l_X3_sum_114 ⟨fun y => by omega, fun _ => ?_⟩
        refine l_X3_sum_122 (hP _ _ (i' + 1) p' lS H2 (fun h2 i2 p2 ln2 y R2 => ⟨1, rfl, ?_⟩) (fun h2 R2 => ⟨0, rfl, ?_⟩))
        · have q2 := R2.2.1
          refine l_X3_sum_128 ⟨fun _ => ?_, fun y => absurd rfl y⟩
          refine l_X3_sum_143 ⟨by omega, ?_⟩
          exact lp_sum hP hz kO kN f (n + 1) (X.c i') hS (i' + 1) p' lS h2 i2 p2 ln2 y (by have := R2.1.2.2.2.2.1; omega) C2 (R2.mono (by decide) (by decide) (by omega)) (by omega) (by omega)
        · refine l_X3_sum_128 ⟨fun _ => ?_, fun y => absurd rfl y⟩
          exact dead _ _ _ (by omega) (C2.no L (R2.mono (by decide) (by omega)))
      refine l_X3_sum_91 ⟨R.1.pre, fun h1 e1 => ⟨fun y => by omega, fun _ => ⟨fun c => ?_, fun c => ⟨?_, fun h2 e2 => ?_⟩⟩⟩⟩
      · subst e1
        rcases C with ⟨c1, c2, c3, c4, c5⟩ | ⟨c1, _⟩
        · rw [c2, c3, c4, c5] at R
          have R' : ROk X z h0 h 5 5 dep i p ln h' i' p' ln' x := R.mono (by decide) (by decide) (by omega)
          exact cont _ ln' (Or.inr ⟨ha, i', x, rfl, rfl, A.1, R'.2.1, fun k hk => by rw [A.2, R'.2.2.1 k hk], by rw [A.2]; exact R'.2.2.2.1, R'.2.2.2.2.2⟩) A.1
        · unfold add2 at c1
          omega
      · subst e1
        exact A.1.preL
      · subst e2 e1
        have B := A.1.add w 0 (by have := C.bd c; omega)
        obtain ⟨v, v1, v2, v3, v4, v5⟩ := C.close L R c (fun k hk => by rw [B.2.1 k hk, A.2]) B.2.2.1 B.2.2.2
        exact cont _ (ln' + 2) (Or.inr ⟨ha, i', v, rfl, rfl, B.1, v1, v2, v3, v5⟩) B.1
    have s50 : ∀ y6 : Int, ((y6 = 1 ∧ add2 (X.c i')) ∨ (y6 = 0 ∧ ¬ add2 (X.c i'))) → Lp_X3_sum_50 D b Q dep 1 w n (X.c i') y6 h' := fun y6 hy => by
      have s78 : ∀ y7 : Int, ((y7 = 1 ∧ mul3 (X.c i')) ∨ (y7 = 0 ∧ ¬ mul3 (X.c i'))) → Lp_X3_sum_78 D b Q dep 1 w n (X.c i') y6 y7 h' := fun y7 h7 => by
        rcases hy with ⟨a, ha⟩ | ⟨a, ha⟩ <;> rcases h7 with ⟨m7, hm⟩ | ⟨m7, hm⟩ <;> subst a m7
        · unfold add2 at ha
          unfold mul3 at hm
          omega
        · exact l_X3_sum_78 ⟨fun y => by omega, fun _ => addB ha⟩
        · exact l_X3_sum_78 ⟨fun _ => ⟨fun y => by omega, fun _ => mulB hm⟩, fun y => absurd rfl y⟩
        · refine l_X3_sum_78 ⟨fun _ => ⟨fun _ => stop ?_, fun y => absurd rfl y⟩, fun y => absurd rfl y⟩
          unfold add2 at ha
          unfold mul3 at hm
          unfold bop
          (repeat' split) <;> omega
      exact l_X3_sum_50 ⟨fun c => s78 1 (Or.inl ⟨rfl, Or.inl c⟩), fun c1 => ⟨fun c => s78 1 (Or.inl ⟨rfl, Or.inr (Or.inl c)⟩), fun c2 => ⟨fun c => s78 1 (Or.inl ⟨rfl, Or.inr (Or.inr c)⟩), fun c3 => s78 0 (Or.inr ⟨rfl, fun y => by unfold mul3 at y; omega⟩)⟩⟩⟩
    refine l_X3_sum_11 ?_
    rw [e5]
    exact ⟨fun y => by omega, fun _ => ⟨fun y => by omega, fun _ => ⟨fun c => s50 1 (Or.inl ⟨rfl, Or.inl c⟩), fun c1 => ⟨fun c => s50 1 (Or.inl ⟨rfl, Or.inr c⟩), fun c2 => s50 0 (Or.inr ⟨rfl, fun y => by unfold add2 at y; omega⟩)⟩⟩⟩⟩
theorem x_sum {D : Nat} (hP : SpX X z h0 mX3_part [vR (some 31), vI dep] D 7 7 dep (fun _ => True) (fun _ => True)) : SpX X z h0 mX3_sum [vR (some 31), vI dep] (D + 1) 5 5 dep (fun c => bop c = -1) (fun _ => True) := by
  intro e b Q h i p ln H kO kN
  have hl := H.2.2.2.2.2.2.1
  have hi := H.2.2.2.2.1
  refine WM_d (show D + e + 1 = D + 1 + e by omega) (w_X3_sum ?_)
  refine hP e 0 _ h i p ln H (fun h' i' p' ln' x R _ _ => ⟨1, rfl, ?_⟩) (fun h' R => ⟨0, rfl, ?_⟩)
  · have r2 := R.2.1
    exact lp_sum (fun Q' h2 i2 p2 ln2 H2 a1 a2 => hP e 0 Q' h2 i2 p2 ln2 H2 (fun h' i' p' ln' x R _ _ => a1 h' i' p' ln' x R) a2) ⟨hi.1, hl.1, hl.2.2⟩ (fun h' i' p' ln' x R s => kO h' i' p' ln' x R s True.intro) kN (X.m - i').toNat 0 (-1) h i p ln h' i' p' ln' x (by omega) (Or.inl ⟨rfl, rfl, rfl, rfl, rfl⟩) (R.mono (by decide) (by decide) (by omega)) (Int.le_refl _) (by omega)
  · have N : RNo X h0 5 dep i p h' := R.mono (by decide) (by omega)
    have e149 : Lp_X3_sum_149 (D + e) b Q 0 (-1) h' := l_X3_sum_149 ⟨fun _ => ⟨Or.inl rfl, kN _ N⟩, fun y => absurd rfl y⟩
    exact l_X3_sum_11 ⟨fun _ => e149, fun _ => ⟨fun _ => e149, fun y => absurd rfl y⟩⟩
theorem SpX.up {y : Mth} {args : List AV} {D : Nat} {lo hi : Int} {st : Int → Prop} {tt : Vl → Prop} (H : SpX X z h0 y args D lo hi dep st tt) : SpX X z h0 y args (D + 1) lo hi dep st tt := fun e b Q h i p ln hp kO kN =>
  WM_d (show D + (e + 1) = D + 1 + e by omega) (H (e + 1) b Q h i p ln hp kO kN)
end XFUN
