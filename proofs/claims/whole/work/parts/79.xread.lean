/-! the class while it reads an expression -/
def XFr (a h : AH) : Prop := (∀ q x, ¬ (q = 37 ∨ (q = 31 ∧ (x = 4 ∨ x = 5 ∨ x = 6)) ∨ (q = 35 ∧ x = 2)) → gi h q x = gi a q x) ∧ rf h = rf a ∧ kd h = kd a ∧ hn h = hn a ∧ gl h = gl a
theorem XFr.rfl' {a : AH} : XFr a a := ⟨fun _ _ _ => rfl, rfl, rfl, rfl, rfl⟩
theorem XFr.trans {a b c : AH} (x : XFr a b) (y : XFr b c) : XFr a c := ⟨fun q k z => (y.1 q k z).trans (x.1 q k z), y.2.1.trans x.2.1, y.2.2.1.trans x.2.2.1, y.2.2.2.1.trans x.2.2.2.1, y.2.2.2.2.trans x.2.2.2.2⟩
theorem XFr.si {a b : AH} (x : XFr a b) {q : Nat} {i v : Int} (h : q = 37 ∨ (q = 31 ∧ (i = 4 ∨ i = 5 ∨ i = 6)) ∨ (q = 35 ∧ i = 2)) : XFr a (si b q i v) := x.trans ⟨fun q' k z => by rw [gi_si, if_neg (fun e => z (by rw [e.1, e.2]; exact h))], rfl, rfl, rfl, rfl⟩
theorem XFr.adv {a b : AH} (x : XFr a b) : XFr a (advX b) := by
  unfold advX
  split
  · exact (x.si (by omega)).si (by omega)
  · exact x
theorem XFr.add {a b : AH} (x : XFr a b) {s v : Int} : XFr a (addX b s v) := by
  unfold addX
  split
  · exact ((x.si (Or.inl rfl)).si (Or.inl rfl)).si (by omega)
  · exact x
/-- the class's arrays hold the text's tokens -/
def XA (X : Txt) (z : Int) (h0 : AH) : Prop := gi h0 31 3 = X.m ∧ (∀ i, 0 ≤ i → i < X.m → gi h0 32 i = X.c i ∧ gi h0 34 i = X.v i) ∧ gi h0 31 7 = X.mode ∧ LxOK X ∧ (X.mode = 0 ∨ X.mode = 1) ∧ 0 ≤ z ∧ z ≤ 70
def XP (X : Txt) (z : Int) (h0 h : AH) (i p ln : Int) : Prop := gi h 31 4 = i ∧ gi h 31 5 = X.c i ∧ gi h 31 6 = p ∧ gi h 35 2 = ln ∧ (0 ≤ i ∧ i < X.m) ∧ (0 ≤ p ∧ p ≤ 50) ∧ (0 ≤ ln ∧ ln % 2 = 0 ∧ ln ≤ 2 * i + z) ∧ XFr h0 h ∧ XA X z h0
section XPs
variable {X : Txt} {z : Int} {h0 h h' : AH} {i p ln j : Int} {s v : Int}
theorem XP.pre (H : XP X z h0 h i p ln) : 0 ≤ gi h 31 4 ∧ gi h 31 4 ≤ 400 ∧ gi h 31 3 ≤ 401 := by
  obtain ⟨h1, h2, h3, h4, h5, h6, h7, h8, h9⟩ := H
  have m := h9.2.2.2.1.m1
  have e : gi h 31 3 = X.m := (h8.1 _ _ (by omega)).trans h9.1
  omega
theorem XP.preL (H : XP X z h0 h i p ln) : 0 ≤ gi h 35 2 ∧ gi h 35 2 ≤ 872 := by
  obtain ⟨h1, h2, h3, h4, h5, h6, h7, h8, h9⟩ := H
  have m := h9.2.2.2.1.m1
  have zz := h9.2.2.2.2.2
  omega
theorem XP.L (H : XP X z h0 h i p ln) : LxOK X := H.2.2.2.2.2.2.2.2.2.2.2.1
theorem XP.md (H : XP X z h0 h i p ln) : X.mode = 0 ∨ X.mode = 1 := H.2.2.2.2.2.2.2.2.2.2.2.2.1
theorem XP.adv (H : XP X z h0 h i p ln) (hc : X.c i ≠ -1) : XP X z h0 (advX h) (i + 1) p ln ∧ gi (advX h) 37 = gi h 37 := by
  have L := H.L
  obtain ⟨h1, h2, h3, h4, h5, h6, h7, h8, h9⟩ := H
  have l1 := L.lt h5 hc
  have e : gi h 31 3 = X.m := (h8.1 _ _ (by omega)).trans h9.1
  have e2 : gi h 32 (i + 1) = X.c (i + 1) := (h8.1 _ _ (by omega)).trans (h9.2.1 _ (by omega) l1).1
  have F := h8.adv
  unfold advX at *
  rw [h1, if_pos (by omega)] at *
  refine ⟨⟨?_, ?_, ?_, ?_, by omega, h6, by omega, F, h9⟩, ?_⟩
  · rw [gi_nk (by decide), gi_eq]
  · rw [gi_eq, e2]
  · rw [gi_nk (by decide), gi_nk (by decide), h3]
  · rw [gi_no (by decide), gi_no (by decide), h4]
  · rw [giF_no (by decide), giF_no (by decide)]
theorem XP.add (H : XP X z h0 h i p ln) (s v : Int) (hl : ln + 2 ≤ 2 * i + z) : XP X z h0 (addX h s v) i p (ln + 2) ∧ (∀ k, k < ln → gi (addX h s v) 37 k = gi h 37 k) ∧ gi (addX h s v) 37 ln = s ∧ gi (addX h s v) 37 (ln + 1) = v := by
  have L := H.L
  obtain ⟨h1, h2, h3, h4, h5, h6, h7, h8, h9⟩ := H
  have m := L.m1
  have zz := h9.2.2.2.2.2
  have F := h8.add (s := s) (v := v)
  unfold addX at *
  rw [h4, if_pos (by omega)] at *
  refine ⟨⟨?_, ?_, ?_, gi_eq, h5, h6, by omega, F, h9⟩, fun k hk => ?_, ?_, ?_⟩
  · rw [gi_no (by decide), gi_no (by decide), gi_no (by decide), h1]
  · rw [gi_no (by decide), gi_no (by decide), gi_no (by decide), h2]
  · rw [gi_no (by decide), gi_no (by decide), gi_no (by decide), h3]
  · rw [gi_no (by decide), gi_nk (by omega), gi_nk (by omega)]
  · rw [gi_no (by decide), gi_nk (by omega), gi_eq]
  · rw [gi_no (by decide), gi_eq]
theorem v_nn (L : LxOK X) (hi : 0 ≤ i ∧ i < X.m) (hc : X.c i = 256) : 0 ≤ X.v i := by
  have q := L.pl0 hi
  have n0 := L.n0
  unfold Txt.v nmF
  by_cases c1 : X.n ≤ X.pl i
  · rw [if_pos c1]
    exact Int.le_refl _
  · by_cases c2 : ltL (X.T (X.pl i))
    · rw [if_neg c1, if_pos c2]
      exact Int.le_refl _
    · by_cases c3 : ltD (X.T (X.pl i))
      · rw [if_neg c1, if_neg c2, if_pos c3]
        have := nu_eq (T := X.T) (tEnd X.T X.n (X.pl i) - X.pl i).toNat (X.pl i) 0 0 (fun j j0 j1 => ?_) (by unfold nuR; omega)
        · exact this.1
        · have e : tEnd X.T X.n (X.pl i) = runTo ltD X.T X.n (X.pl i + 1) := by
            unfold tEnd
            rw [if_neg c2, if_pos c3]
          have r := runTo_r (p := ltD) (T := X.T) (show X.pl i + 1 ≤ X.n by omega)
          rcases Int.lt_or_le (X.pl i) j with y | y
          · exact r.2.2.1 j (by omega) (by omega)
          · have : j = X.pl i := by omega
            subst this
            exact c3
      · rw [if_neg c1, if_neg c2, if_neg c3]
        exact Int.le_refl _
theorem XP.nF (H : XP X z h0 h i p ln) {lo hi : Int} (hlo : lo = 0) : nFrom h lo hi = if X.c i = 256 ∧ X.v i ≤ hi then X.v i else -1 := by
  have L := H.L
  obtain ⟨h1, h2, h3, h4, h5, h6, h7, h8, h9⟩ := H
  have e : gi h 34 i = X.v i := (h8.1 _ _ (by omega)).trans (h9.2.1 i h5.1 h5.2).2
  unfold nFrom
  rw [h1, h2, e]
  by_cases c : X.c i = 256
  · have := v_nn L h5 c
    by_cases c2 : X.v i ≤ hi
    · rw [if_pos ⟨c, by omega, c2⟩, if_pos ⟨c, c2⟩]
    · rw [if_neg (fun y => c2 y.2.2), if_neg (fun y => c2 y.2)]
  · rw [if_neg (fun y => c y.1), if_neg (fun y => c y.1)]
end XPs
/-- read: from token i to i', steps from ln to ln' mean x -/
def ROk (X : Txt) (z : Int) (h0 h : AH) (lo hi dep i p ln : Int) (h' : AH) (i' p' ln' : Int) (x : Vl) : Prop :=
  XP X z h0 h' i' p' ln' ∧ (i < i' ∧ p < p' ∧ ln < ln' ∧ ln' ≤ ln + 2 * (i' - i)) ∧ (∀ k, k < ln → gi h' 37 k = gi h 37 k) ∧ XS (mX X.mode) (gi h' 37) ln ln' (p' - p) x ∧ VB (mX X.mode) x ∧ ToS X lo hi dep i p i' p' x
def RNo (X : Txt) (h0 : AH) (hi dep i p : Int) (h' : AH) : Prop := XFr h0 h' ∧ (0 ≤ gi h' 31 4 ∧ gi h' 31 4 < X.m) ∧ (0 ≤ gi h' 35 2 ∧ gi h' 35 2 ≤ 872) ∧ ToF X hi dep i p (gi h' 31 4)
def SpX (X : Txt) (z : Int) (h0 : AH) (y : Mth) (args : List AV) (D : Nat) (lo hi dep : Int) (st : Int → Prop) (tt : Vl → Prop) : Prop := ∀ (e b : Nat) (Q : Option AV → AH → Prop) (h : AH) (i p ln : Int), XP X z h0 h i p ln →
  (∀ h' i' p' ln' x, ROk X z h0 h lo hi dep i p ln h' i' p' ln' x → st (X.c i') → tt x → Q (some (vI 1)) h') → (∀ h', RNo X h0 hi dep i p h' → Q (some (vI 0)) h') → WM GX (D + e) b y args h Q
theorem ROk.mono {X : Txt} {z : Int} {h0 h h' : AH} {lo hi lo' hi' dep i p ln i' p' ln' : Int} {x : Vl} (H : ROk X z h0 h lo hi dep i p ln h' i' p' ln' x) (h1 : lo' ≤ lo) (h2 : hi' ≤ hi) (h3 : hi ≤ 4 ∨ 4 < hi') : ROk X z h0 h lo' hi' dep i p ln h' i' p' ln' x :=
  ⟨H.1, H.2.1, H.2.2.1, H.2.2.2.1, H.2.2.2.2.1, H.2.2.2.2.2.mono h1 h2 h3⟩
theorem RNo.mono {X : Txt} {h0 h' : AH} {hi hi' dep i p : Int} (H : RNo X h0 hi dep i p h') (h2 : hi' ≤ hi) (h3 : hi ≤ 4 ∨ 4 < hi') : RNo X h0 hi' dep i p h' := ⟨H.1, H.2.1, H.2.2.1, H.2.2.2.mono h2 h3⟩
theorem RNo.at {X : Txt} {z : Int} {h0 h : AH} {hi dep i p j q ln : Int} (H : XP X z h0 h j q ln) (F : ToF X hi dep i p j) : RNo X h0 hi dep i p h := by
  have pl := H.preL
  obtain ⟨h1, h2, h3, h4, h5, h6, h7, h8, h9⟩ := H
  exact ⟨h8, by omega, pl, by rw [h1]; exact F⟩
theorem RNo.add {X : Txt} {h0 h' : AH} {hi dep i p s v : Int} (H : RNo X h0 hi dep i p h') : RNo X h0 hi dep i p (addX h' s v) := by
  obtain ⟨h1, h2, h3, h4⟩ := H
  have F := h1.add (s := s) (v := v)
  unfold addX at *
  by_cases c : gi h' 35 2 + 1 < 872
  · rw [if_pos c] at *
    have e : gi (si (si (si h' 37 (gi h' 35 2) s) 37 (gi h' 35 2 + 1) v) 35 2 (gi h' 35 2 + 2)) 31 4 = gi h' 31 4 := by rw [gi_no (by decide), gi_no (by decide), gi_no (by decide)]
    refine ⟨F, by rw [e]; exact h2, by rw [gi_eq]; omega, by rw [e]; exact h4⟩
  · rw [if_neg c] at *
    exact ⟨h1, h2, h3, h4⟩
theorem RNo.toF {X : Txt} {h0 h' : AH} {hi hi' dep dep' i i' p p' : Int} (H : RNo X h0 hi dep i p h') (f : ∀ j, ToF X hi dep i p j → ToF X hi' dep' i' p' j) : RNo X h0 hi' dep' i' p' h' := ⟨H.1, H.2.1, H.2.2.1, f _ H.2.2.2⟩
theorem ptF_l {c : Int} : lFact (c - 258) = if ptF 0 c = -1 then -1 else ptF 0 c - 1 := by
  unfold lFact ptF
  rw [if_pos rfl]
  (repeat' split) <;> omega
theorem ptF_o {c : Int} : oFact (c - 258) = if ptF 1 c = -1 then -1 else fiX 1 (ptF 1 c) 0 := by
  unfold oFact ptF
  rw [if_neg (show ¬ (1 : Int) = 0 by decide)]
  by_cases c1 : c = 267
  · subst c1; decide
  by_cases c2 : c = 269
  · subst c2; decide
  by_cases c3 : c = 270
  · subst c3; decide
  by_cases c4 : c = 271
  · subst c4; decide
  by_cases c5 : c = 272
  · subst c5; decide
  by_cases c6 : c = 262
  · subst c6; decide
  by_cases c7 : c = 266
  · subst c7; decide
  rw [if_neg c1, if_neg c2, if_neg c3, if_neg c4, if_neg c5, if_neg c6, if_neg c7, if_pos rfl, if_neg (by omega), if_neg (by omega), if_neg (by omega), if_neg (by omega), if_neg (by omega), if_neg (by omega), if_neg (by omega)]
section XPART
variable {X : Txt} {z : Int} {h0 h : AH} {dep i p ln : Int} {d b : Nat} {Q : Option AV → AH → Prop}
/-- a part's step is put down -/
theorem x_step {h1 : AH} {i1 s v o a : Int} (H : XP X z h0 h1 i1 p ln) (h37 : gi h1 37 = gi h 37) (H0 : 0 ≤ i ∧ i ≤ i1) (hl : ln + 2 ≤ 2 * i1 + 2 + z) (hl0 : ln ≤ 2 * i + z) (hc : X.c i1 ≠ -1) (hp : p < 50) (pt : PtOk X i o a (i1 + 1)) (hci : X.c i ≠ 91)
    (hs : (s = 1 ∧ v = a ∧ o = 0 ∧ -1000000000 ≤ a ∧ a ≤ 1000000000) ∨ (s = 2 ∧ v = fiX X.mode o a ∧ o ≠ 0 ∧ okF (mX X.mode) (fiX X.mode o a))) :
    ROk X z h0 h 7 7 dep i p ln (advX (si (addX h1 s v) 31 6 (gi (addX h1 s v) 31 6 + 1))) (i1 + 1) (p + 1) (ln + 2) (vLf (fiX X.mode) o a) ∧ (0 ≤ gi h1 35 2 ∧ gi h1 35 2 ≤ 872) ∧ R32 (gi (addX h1 s v) 31 6 + 1) ∧ (0 ≤ gi (si (addX h1 s v) 31 6 (gi (addX h1 s v) 31 6 + 1)) 31 4 ∧ gi (si (addX h1 s v) 31 6 (gi (addX h1 s v) 31 6 + 1)) 31 4 ≤ 400 ∧ gi (si (addX h1 s v) 31 6 (gi (addX h1 s v) 31 6 + 1)) 31 3 ≤ 401) := by
  have L := H.L
  have md := H.md
  have pl := H.preL
  have A : XP X (z + 2) h0 h1 i1 p ln → True := fun _ => True.intro
  clear A
  obtain ⟨h1', h2', h3', h4', h5', h6', h7', h8', h9'⟩ := H
  have m := L.m1
  have zz := h9'.2.2.2.2.2
  have l1 := L.lt h5' hc
  have eX : addX h1 s v = si (si (si h1 37 ln s) 37 (ln + 1) v) 35 2 (ln + 2) := by
    unfold addX
    rw [h4', if_pos (by omega)]
  rw [eX]
  have e6 : gi (si (si (si h1 37 ln s) 37 (ln + 1) v) 35 2 (ln + 2)) 31 6 = p := by rw [gi_no (by decide), gi_no (by decide), gi_no (by decide), h3']
  rw [e6]
  obtain ⟨H3, e3⟩ : ∃ H3, si (si (si (si h1 37 ln s) 37 (ln + 1) v) 35 2 (ln + 2)) 31 6 (p + 1) = H3 := ⟨_, rfl⟩
  rw [e3]
  have f4 : gi H3 31 4 = i1 := by rw [← e3, gi_nk (by decide), gi_no (by decide), gi_no (by decide), gi_no (by decide), h1']
  have f3 : gi H3 31 3 = X.m := by rw [← e3, gi_nk (by decide), gi_no (by decide), gi_no (by decide), gi_no (by decide), h8'.1 _ _ (by omega), h9'.1]
  have f32 : gi H3 32 (i1 + 1) = X.c (i1 + 1) := by rw [← e3, gi_no (by decide), gi_no (by decide), gi_no (by decide), gi_no (by decide), h8'.1 _ _ (by omega), (h9'.2.1 _ (by omega) l1).1]
  have FX : XFr h0 H3 := by rw [← e3]; exact (((h8'.si (Or.inl rfl)).si (Or.inl rfl)).si (by omega)).si (by omega)
  have FA := FX.adv
  have eA : advX H3 = si (si H3 31 4 (i1 + 1)) 31 5 (X.c (i1 + 1)) := by
    unfold advX
    rw [f4, f3, f32, if_pos (by omega)]
  rw [eA] at FA
  rw [eA]
  have g37 : ∀ k, gi (si (si H3 31 4 (i1 + 1)) 31 5 (X.c (i1 + 1))) 37 k = gi (si (si h1 37 ln s) 37 (ln + 1) v) 37 k := fun k => by rw [gi_no (by decide), gi_no (by decide), ← e3, gi_no (by decide), gi_no (by decide)]
  have k0 : gi (si (si H3 31 4 (i1 + 1)) 31 5 (X.c (i1 + 1))) 37 ln = s := by rw [g37, gi_nk (by omega), gi_eq]
  have k1 : gi (si (si H3 31 4 (i1 + 1)) 31 5 (X.c (i1 + 1))) 37 (ln + 1) = v := by rw [g37, gi_eq]
  refine ⟨⟨⟨?_, ?_, ?_, ?_, by omega, by omega, by omega, FA, h9'⟩, by omega, fun k hk => ?_, ?_, ?_, ?_⟩, pl, by omega, by omega⟩
  · rw [gi_nk (by decide), gi_eq]
  · rw [gi_eq]
  · rw [gi_nk (by decide), gi_nk (by decide), ← e3, gi_eq]
  · rw [gi_no (by decide), gi_no (by decide), ← e3, gi_no (by decide), gi_eq]
  · rw [g37, gi_nk (by omega), gi_nk (by omega), h37]
  · rw [show p + 1 - p = 1 by omega]
    refine XS.leaf (by omega) (by unfold mX; split <;> omega) ?_
    rw [k0, k1]
    omega
  · intro F hF w hw
    unfold vLf at hw
    cases hw
    by_cases c : o = 0
    · rw [if_pos c]
      omega
    · rw [if_neg c]
      exact hF _ (by omega)
  · exact ToS.leaf L md hci hp pt
end XPART
