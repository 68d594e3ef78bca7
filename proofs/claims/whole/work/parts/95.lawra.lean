/-! the query law -/
theorem RRs.txt {n : Nat} {hX hX' hM hM' : AH} (S : RRs n hX hM) (ra : RA hX' 1 (gi hM' 2)) (ru : RU hX' hM') (dy : DynX hX hX')
    (x : ∀ q k, ((14 ≤ q ∧ q ≤ 28) ∨ q = 30 ∨ q = 46 ∨ (50 ≤ q ∧ q ≤ 75) ∨ (q = 0 ∧ (k = 4 ∨ k = 10 ∨ k = 11))) → gi hX' q k = gi hX q k) (xr : ∀ q, 50 ≤ q → q ≤ 75 → ∀ k, rf hX' q k = rf hX q k)
    (m : ∀ q k, (q = 1 ∨ q = 3 ∨ q = 4 ∨ q = 9 ∨ q = 30 ∨ q = 31 ∨ (q = 0 ∧ (k = 11 ∨ k = 20 ∨ k = 52 ∨ k = 57))) → gi hM' q k = gi hM q k) (mg : ∀ q, (q = 15 ∨ q = 16 ∨ q = 17 ∨ q = 28) → ∀ k, gl hM' q k = gl hM q k) (ht : gi hX' 29 1 = 0 ∧ gi hM' 0 13 = 0) (hf : gi hX' 31 8 = gi hM' 0 18) : RRs n hX' hM' := by
  obtain ⟨h1, h2, h3, h4, ⟨b1, b2, b3, b4, b6, b7, b8⟩, h6, h7⟩ := S
  refine ⟨ra, ru, h3.to (fun k => x _ _ (by omega)) (fun q a b k => x _ _ (by omega)) dy (fun q a b k => xr q a b k) (fun k => m _ _ (by omega)) (fun k => m _ _ (by omega)),
    h4.to (x _ _ (by omega)) (fun q a b k => x _ _ (by omega)) (fun k => x _ _ (by omega)) (m _ _ (by omega)) (fun k => m _ _ (by omega)) (fun k => m _ _ (by omega)),
    ⟨⟨by omega, by omega, by omega, fun i i0 i1 => ?_⟩, hf, ?_, ?_, ?_, fun k k0 k1 => ?_, b8⟩,
    h6.to (m _ _ (by omega)) mg, Nat.le_trans h7 dy.1⟩
  · rw [x 30 _ (by omega), m 9 _ (by omega)]
    exact b1.2.2.2 i i0 i1
  · rw [x 0 10 (by omega), m 0 11 (by omega)]
    exact b3
  · rw [x 0 11 (by omega), m 0 52 (by omega)]
    exact b4
  · have y : ∀ k, gi hX' 14 k = gi hX 14 k := fun k => x _ _ (by omega)
    have y' : ∀ k, gi hM' 1 k = gi hM 1 k := fun k => m _ _ (by omega)
    simp only [y, y']
    exact b6
  · rw [m 1 _ (by omega)]
    exact b7 k k0 k1
/-- what the reference's reading changes -/
def FrE (a h : AH) : Prop := (∀ q x, ¬ (q = 10 ∨ q = 11 ∨ q = 12 ∨ q = 13 ∨ q = 14 ∨ q = 29 ∨ (q = 0 ∧ (x = 0 ∨ x = 13 ∨ x = 14 ∨ x = 15 ∨ x = 16 ∨ x = 18 ∨ x = 19 ∨ x = 21 ∨ x = 23 ∨ x = 26 ∨ x = 29 ∨ x = 30))) → gi h q x = gi a q x) ∧ ∀ q x, ¬ (q = 0 ∧ x = 17) → gl h q x = gl a q x
theorem FrE.of {a h : AH} {m : Int} (F : FrR (si (si a 0 0 0) 0 20 m) h) (e20 : gi a 0 20 = 0) : FrE a (si (si h 0 20 0) 0 13 0) := ⟨fun q x z => by
  by_cases c : q = 0 ∧ x = 20
  · obtain ⟨c1, c2⟩ := c
    subst c1 c2
    rw [gi_nk (by decide), gi_eq, e20]
  · rw [gi_ne (by omega), gi_ne (by omega), F.1 q x (by omega), gi_ne (by omega), gi_ne (by omega)], fun q x z => F.2 q x z⟩
theorem FrE.m {a h : AH} (F : FrE a h) : ∀ q k, (q = 1 ∨ q = 3 ∨ q = 4 ∨ q = 9 ∨ q = 30 ∨ q = 31 ∨ (q = 0 ∧ (k = 11 ∨ k = 20 ∨ k = 52 ∨ k = 57))) → gi h q k = gi a q k := fun q k z => F.1 q k (by omega)
theorem FrD.x {a h : AH} (F : FrD a h) : ∀ q k, ((14 ≤ q ∧ q ≤ 28) ∨ q = 30 ∨ q = 46 ∨ (50 ≤ q ∧ q ≤ 75) ∨ (q = 0 ∧ (k = 4 ∨ k = 10 ∨ k = 11))) → gi h q k = gi a q k := fun q k z => F.1 q k (by omega)
theorem FrD.dyn {a h : AH} (F : FrD a h) : DynX a h := ⟨Nat.le_of_eq F.2.2.2.1.symm, fun q q0 q1 => ⟨by rw [F.2.2.1], fun k => F.1 q k (by omega), fun k => by rw [F.2.1]⟩⟩
theorem FrD.ra {a h : AH} {r : Int → Int} (F : FrD a h) (H : RA a 1 r) : RA h 1 r := H.to (fun c hc k => F.1 _ _ (by omega)) F.dyn (fun i => by rw [F.2.1])
/-- a text that neither side read through -/
theorem RRs.bad {n : Nat} {hX hX' hM hM' : AH} (S : RRs n hX hM) (F : FrD hX hX') (G : FrE hM hM') (e29 : gi hX' 29 1 = 0) (e13 : gi hM' 0 13 = 0) (hf : gi hX' 31 8 = gi hM' 0 18) : RRs n hX' hM' := by
  have e2 : gi hM' 2 = gi hM 2 := funext fun k => G.1 _ _ (by omega)
  refine S.txt ?_ ?_ F.dyn F.x (fun q _ _ k => by rw [F.2.1]) G.m (fun q z k => G.2 q k (by omega)) ⟨e29, e13⟩ hf
  · rw [e2]
    exact F.ra S.1
  · exact S.2.1.to (F.1 _ _ (by omega)) (fun k => F.1 _ _ (by omega)) (G.1 _ _ (by omega)) (fun k => G.1 _ _ (by omega)) (fun k => G.1 _ _ (by omega)) (G.1 _ _ (by omega)) (fun u z => by rw [e2]; exact z)
/-- the isle with one law more -/
theorem law_RA {hX h : AH} {r g : Int → Int} {r3 : Int} {t : Nat} (S : RA hX 1 r) (e3 : r 3 = r3) (h3 : 0 ≤ r3 ∧ r3 < 6) (dy : DynX hX h) (x : ∀ q k, 1 ≤ q → q ≤ 13 → ¬ (q = 1 ∧ k = 16) → gi h q k = gi hX q k) (x3 : gi h 1 16 = r3 + 1) (xr : ∀ i, i ≠ r3 → rf h 13 i = rf hX 13 i) (xt : rf h 13 r3 = some t) (T : TxtR h t (lawC g r3)) (g3 : g 3 = r3 + 1) (gg : ∀ k, k ≠ 3 → ¬ (140 + 900 * r3 + 1 ≤ k ∧ k < 140 + 900 * r3 + 898) → g k = r k) (ic : InvC (lawC g r3)) : RA h 1 g := by
  obtain ⟨s1, s2, s3⟩ := S
  have lc : ∀ i, 0 ≤ i → i ≠ r3 → ∀ j, 0 ≤ j → j < 898 → lawC g i j = lawC r i j := fun i i0 ne j j0 j1 => by
    rw [lawC_at j0, lawC_at j0]
    exact gg _ (by omega) (by omega)
  refine ⟨fun k hk => ?_, ⟨fun i i0 i1 => ?_, fun i t' i0 i1 ht => ?_⟩, s3.law (fun k a b => gg k a (by omega)) (by rw [g3, e3]) (by omega) (fun i i0 i1 => ?_)⟩
  · by_cases c : k = 3
    · subst c
      rw [g3]
      exact x3.symm
    · have hla : la k ≤ 12 := by
        unfold la
        repeat' split
        all_goals omega
      have lk := linv_ok hk
      rw [x _ _ (by omega) (by omega) (fun z => ?_)]
      · rw [gg k c (by unfold okP at hk; omega)]
        exact s1 k hk
      · have : la k = 0 := by omega
        rw [this, z.2] at lk
        exact c lk.symm
  · rw [g3] at i1
    by_cases c : i = r3
    · subst c
      exact ⟨t, xt, T⟩
    · obtain ⟨t', q1, q2⟩ := s2.1 i i0 (by omega)
      exact ⟨t', (xr i c).trans q1, (q2.dyn dy).cc (lc i i0 c)⟩
  · by_cases c : i = r3
    · subst c
      have ht : rf h 13 i = some t' := ht
      rw [xt] at ht
      cases ht
      exact ⟨T.1, T.2.1, T.2.2.1⟩
    · have ht : rf h 13 i = some t' := ht
      rw [xr i c] at ht
      obtain ⟨q1, q2, q3⟩ := s2.2 i t' i0 i1 ht
      exact ⟨q1, Nat.lt_of_lt_of_le q2 dy.1, (dy.2 t' q1 q2).1.trans q3⟩
  · by_cases c : i = r3
    · subst c
      exact ic
    · exact (s3.2.2.2.2.2.2 i i0 i1).cc (lc i i0 c)
theorem back_law {r g u : Int → Int} {r3 : Int} (e3 : r 3 = r3) (h3 : 0 ≤ r3 ∧ r3 < 6) (g3 : g 3 = r3 + 1) (gg : ∀ k, k ≠ 3 → ¬ (140 + 900 * r3 + 1 ≤ k ∧ k < 140 + 900 * r3 + 898) → g k = r k) (ic : ∀ i, 0 ≤ i → i < 6 → InvC (lawC g i)) (H : InvR (backR r u)) : InvR (backR g u) := by
  refine H.law (fun k a b => ?_) ?_ ?_ (fun i i0 i1 => ?_)
  · unfold backR
    split
    · rfl
    · exact gg k a (by omega)
  · show g 3 = r 3 + 1
    rw [g3, e3]
  · show r 3 < 6
    omega
  · rw [lawC_eq i0 (r := g) (r' := backR g u) (fun j hj => by unfold backR; rw [if_neg (by omega)])]
    exact ic i i0 i1
/-- the new law's text -/
theorem law_txt {h1 h2 hE : AH} {R : List Rec} {l : Nat} {c : Int → Int} (h7 : 76 ≤ hn h1) (C : CpX h1 h2 (5 * R.length) l) (e0 : gi h1 35 0 = R.length) (e2 : gi h1 35 2 = l) (hr : R.length ≤ 12 ∧ l ≤ 872) (A : AlX 0 h1 R) (W : WfR (mX 0) (gi h1 37) 0 (gi h1 35 2)) (B : AlL hE R) (c1 : c 1 = R.length) (ef : ∀ z : Int, 0 ≤ z → z < 8 * R.length → c (2 + z) = gi hE 10 z) (ec : ∀ z, 0 ≤ z → z < gi hE 0 23 → cOp c z = gi hE 11 z ∧ cArg c z = gi hE 12 z) : TxtR h2 (hn h1) c := by
  obtain ⟨p1, p2, p3, p4, p5, p6, p7, p8, p9, q1, q2⟩ := C
  refine ⟨h7, by omega, p3, hn h1 + 1, hn h1 + 2, 5 * R.length, l, by omega, by omega, by omega, by omega, p6, p7, p4, p5, by omega, by omega, ?_, by omega, by omega, ?_, by omega, fun i i0 i1 => ?_, fun j j0 j1 => ?_⟩
  · rw [p8, e0, c1]
  · rw [p9, e2]
  · rw [q2 (2 * i) (by omega) (by omega), q2 (2 * i + 1) (by omega) i1]
    have q := W i (by omega) (by omega)
    exact ⟨q.1, fun z => ⟨(q.2.1 z).1, (q.2.1 z).2.1⟩, q.2.2⟩
  · rw [c1] at j1
    have hj : j.toNat < R.length := by omega
    have ej : ((j.toNat : Nat) : Int) = j := by omega
    have hr' := List.getElem?_eq_getElem hj
    have a := A _ _ hr'
    have b := B _ _ hr'
    rw [ej] at a b
    rw [e2] at a
    exact cl_txt (hd := gi h2 (hn h1 + 1)) (s := gi h2 (hn h1 + 2)) ⟨j0, by omega⟩ b (a.ext0 q2 (fun k k0 k1 => q1 _ (by omega) (by omega))) (by omega) ec (fun z z0 z1 => ef z (by omega) (by omega))
