/-! the query law, both sides -/
theorem MC.end16 {X : Txt} {h : AH} {i p : Int} (M : MC X h i p) (hc : X.c i = -1) : gi h 0 16 = 0 := M.2.1.2.2.2.2.1.mp hc
/-- the reference grants -/
theorem lawM_ok {d b : Nat} {Q : Option AV → AH → Prop} {X : Txt} {h hE : AH} {R : List Rec} {i p r3 : Int} (M : MC X h i p) (hc : X.c i = -1) (e21 : gi h 0 21 = R.length) (hR : R.length ≤ 12) (zE : hE = si (si h 0 20 0) 0 13 0) (i4 : i ≤ 400) (e3 : gi h 2 3 = r3) (h3 : 0 ≤ r3 ∧ r3 < 6) (b7 : ∀ i : Int, 0 ≤ i → i < 7 → 0 ≤ gi h 1 i ∧ gi h 1 i ≤ 1000000)
    (K : ∀ g, (∀ q x, ¬ (q = 2 ∧ (x = 3 ∨ (140 + 900 * r3 + 1 ≤ x ∧ x < 140 + 900 * r3 + 98 + 2 * gi h 0 23))) → gi g q x = gi hE q x) → (∀ q x, gl g q x = gl h q x) → gi g 2 3 = r3 + 1 → gi g 2 (140 + 900 * r3 + 1) = R.length → (∀ z : Int, 0 ≤ z → z < 8 * R.length → gi g 2 (140 + 900 * r3 + 2 + z) = gi h 10 z) → (∀ z, 0 ≤ z → z < gi h 0 23 → gi g 2 (140 + 900 * r3 + 98 + 2 * z) = gi h 11 z ∧ gi g 2 (140 + 900 * r3 + 98 + 2 * z + 1) = gi h 12 z) → Q (some (vI r3)) (mTell g r3)) : Lp_X8_law_64 d b Q h := by
  have c0 := M.2.2.2.2.1
  refine l_X8_law_64 (c_endOk M.1 (M.end16 hc) ⟨rfl, fun _ => ?_, fun z => absurd M.1 z⟩)
  rw [← zE]
  have E : ∀ q x, q ≠ 0 ∨ (x ≠ 20 ∧ x ≠ 13) → gi hE q x = gi h q x := fun q x z => by rw [zE, gi_ne (by omega), gi_ne (by omega)]
  have L0 : ∀ q x, gl hE q x = gl h q x := fun q x => by rw [zE]; rfl
  rw [E 2 3 (by omega), E 0 21 (by omega), e3, e21]
  refine ⟨by omega, by omega, by omega, by omega, fun g1 z1 => ?_⟩
  obtain ⟨B, eB⟩ : ∃ B, 140 + 900 * r3 = B := ⟨_, rfl⟩
  rw [eB] at z1 K ⊢
  have W0 : Lw g1 g1 (B + 2) (B + 98) := ⟨fun _ _ _ => rfl, fun _ _ => rfl⟩
  have G1 : ∀ q x, ¬ (q = 2 ∧ x = B + 1) → gi g1 q x = gi hE q x := fun q x z => by rw [z1, gi_ne (by omega)]
  refine lp_law1 (n := R.length) (by rw [G1 _ _ (by omega), E _ _ (by omega), e21]) (by omega) (by omega) (fun g2 W2 I2 => ?_) (8 * R.length) 0 g1 (by omega) (Int.le_refl _) W0 (fun z a b => by omega)
  have W1 : Lw g2 g2 (B + 98) (B + 98 + 2 * gi h 0 23) := ⟨fun _ _ _ => rfl, fun _ _ => rfl⟩
  have G2 : ∀ q x, ¬ (q = 2 ∧ B + 1 ≤ x ∧ x < B + 98) → gi g2 q x = gi hE q x := fun q x z => by rw [W2.1 _ _ (by omega), G1 _ _ (by omega)]
  have t3 : gi g2 2 3 = r3 := by rw [G2 _ _ (by omega), E _ _ (by omega), e3]
  have t23 : gi g2 0 23 = gi h 0 23 := by rw [G2 _ _ (by omega), E _ _ (by omega)]
  refine lp_law2 (a := g2) (c := gi h 0 23) t23 (by omega) (by omega) (by omega) (fun j j0 j1 => by rw [G2 _ _ (by omega), E _ _ (by omega)]; exact b7 j j0 j1) (fun g3 W3 I3 => ?_) (gi h 0 23).toNat 0 g2 (by omega) (Int.le_refl _) W1 (fun z a b => by omega)
  rw [t3]
  refine K _ (fun q x z => ?_) (fun q x => ?_) gi_eq ?_ (fun z z0 z1' => ?_) (fun z z0 z1' => ?_)
  · rw [gi_ne (by omega), W3.1 _ _ (by omega), G2 _ _ (by omega)]
  · show gl g3 q x = _
    rw [W3.2, W2.2, z1]
    exact L0 q x
  · rw [gi_nk (by omega), W3.1 _ _ (by omega), W2.1 _ _ (by omega), z1, gi_eq]
  · rw [gi_nk (by omega), W3.1 _ _ (by omega), I2 z z0 z1', G1 _ _ (by omega), E _ _ (by omega)]
  · have := I3 z z0 z1'
    rw [gi_nk (by omega), gi_nk (by omega), this.1, this.2, G2 _ _ (by omega), G2 _ _ (by omega), E _ _ (by omega), E _ _ (by omega)]
    exact ⟨rfl, rfl⟩
/-- the newest law's code -/
theorem law_InvC {c c0 op arg : Int → Int} {k1 : Int} (H : InvC c0) (hk : 0 ≤ k1) (ec : ∀ z, 0 ≤ z → z < k1 → cOp c z = op z ∧ cArg c z = arg z) (A : AllC 0 (op, arg, k1)) (eo : ∀ j, 98 + 2 * k1 ≤ j → j < 898 → c j = c0 j) : InvC c := fun k k0 k4 => by
  by_cases z : k < k1
  · obtain ⟨q1, q2⟩ := ec k k0 z
    rw [q1, q2]
    obtain ⟨a1, a2, a3⟩ := A k k0 z
    exact ⟨a1, a2, fun w => ⟨(a3 w).1, (a3 w).2.1.1, (a3 w).2.1.2⟩⟩
  · have q1 : cOp c k = cOp c0 k := eo _ (by omega) (by omega)
    have q2 : cArg c k = cArg c0 k := eo _ (by omega) (by omega)
    rw [q1, q2]
    exact H k k0 k4
theorem q_law {n e b dm : Nat} {hX hM : AH} {Q : Option AV → AH → Prop} (R : RR n hX hM) (hq : n < 512) (hQ : ∀ rx hX', WM GM (dm + 8) 0 mX8_law [vR (some 0)] hM (fun rm hM' => RQ n rx rm hX' hM') → Q rx hX') : WM GX (33 + e) (999 + b) mX7_law [vR (some 0)] hX Q := by
  have S := R.s
  obtain ⟨s1, s2, s3, s4, s5, s6, s7⟩ := S
  have S := R.s
  have e20 := s6.1
  have TB : TabM hM := s6.2
  have e3 : gi hM 2 3 = gi hX 1 16 := s1.1 3 (by unfold okP; omega)
  have iv := s1.2.2
  have i3 : 0 ≤ gi hM 2 3 ∧ gi hM 2 3 ≤ 6 := ⟨iv.1.2.2.2.2.2.2.1, iv.1.2.2.2.2.2.2.2.1⟩
  obtain ⟨t1, t2, t3, t4⟩ := s5.1
  obtain ⟨r3, er⟩ : ∃ r3, gi hM 2 3 = r3 := ⟨_, rfl⟩
  refine WM_d (show 20 + e + 13 = 33 + e by omega) (w_X7_law ⟨fun c => ?_, fun c h1 z1 => ⟨fun j j0 j1 => ?_, fun h2 z2 => ?_⟩⟩)
  · refine l_X7_law_27 (WM_d (show 32 + e = 20 + e + 12 by omega) (c_X3_reads (n := gi hX 29 1) (Or.inl rfl) (fun x x0 x1 => ?_) ⟨rfl, by omega, by omega⟩ (fun h1 X L eT en em OK F e29 e8 e0 hR e2 A E => ?_) (fun h1 X j eT en em OK F e29 e8 hj B => ?_)))
    · rw [(t4 x x0 (by omega)).1]
      exact (t4 x x0 (by omega)).2
    · obtain ⟨l, el⟩ : ∃ l : Nat, gi h1 35 2 = l := ⟨(gi h1 35 2).toNat, by omega⟩
      have k7 : 76 ≤ hn h1 := by rw [F.2.2.2.1]; exact s7
      refine ⟨1, rfl, fun z => absurd z (by decide), fun _ => l_X7_law_49 (c_X5_copied k7 e0 el ⟨by omega, by omega⟩ (fun h2 C => ?_))⟩
      have v1 : gi h1 1 16 = r3 := by rw [F.1 _ _ (by omega), ← e3, er]
      have v2 : gi h2 1 16 = r3 := ((C.2.1 1 (by omega)).2.1 16).trans v1
      refine ⟨some (hn h1), rfl, ?_⟩
      rw [v1, v2]
      refine ⟨by omega, fun r hr => ?_, fun h3 z3 => ⟨by omega, fun h4 z4 => ⟨by omega, fun h5 z5 => hQ _ _ ?_⟩⟩⟩
      · cases hr
        exact Or.inr ⟨C.2.2.1, by have := C.1; omega⟩
      · subst z5
        refine w_X8_law fun g1 w1 => ⟨fun z => absurd z (by omega), fun _ => l_X8_law_28 (c_beginText OK em (Or.inl rfl) ?_ (fun x x0 x1 => ?_) ?_ (fun g2 St Fg => ⟨rfl, E.1 em _ _ _ g2 St (fun g3 i p M3 hc e21 F3 A3 => ?_)⟩))⟩
        · rw [w1, gi_nk (by decide), en, t1]
        · rw [w1, gi_no (by decide), eT]
          exact (t4 x x0 (by omega)).1.symm
        · rw [w1]
          exact TB
        · subst w1
          have FA : FrR (si (si hM 0 0 0) 0 20 0) g3 := Fg.trans F3
          have FE := FrE.of FA e20
          have q3 : gi g3 2 3 = r3 := by rw [FA.1 _ _ (by omega), gi_no (by decide), gi_no (by decide), er]
          have im := M3.2.1.1
          have om := OK.m1
          have mc := M3.2.2.2.2.1
          have AC := mc.2.2
          rw [em] at AC
          refine lawM_ok M3 hc e21 (by omega) rfl (by omega) q3 (by omega) (fun j j0 j1 => by rw [FA.1 _ _ (by omega), gi_no (by decide), gi_no (by decide)]; exact S.b7 j j0 j1) (fun g fr fl f3 fn fz fc => ?_)
          have gg : ∀ k, k ≠ 3 → ¬ (140 + 900 * r3 + 1 ≤ k ∧ k < 140 + 900 * r3 + 98 + 2 * gi g3 0 23) → gi g 2 k = gi hM 2 k := fun k a1 a2 => (fr 2 k (by omega)).trans (FE.1 2 k (by omega))
          have ef : ∀ z : Int, 0 ≤ z → z < 8 * L.length → lawC (gi g 2) r3 (2 + z) = gi g3 10 z := fun z z0 z1 => by
            rw [lawC_at (by omega), ← Int.add_assoc]
            exact fz z z0 z1
          have ec : ∀ z, 0 ≤ z → z < gi g3 0 23 → cOp (lawC (gi g 2) r3) z = gi g3 11 z ∧ cArg (lawC (gi g 2) r3) z = gi g3 12 z := fun z z0 z1 => by
            have q := fc z z0 z1
            refine ⟨?_, ?_⟩
            · show lawC _ _ (98 + 2 * z) = _
              rw [lawC_at (by omega), ← q.1]
              congr 1
              omega
            · show lawC _ _ (98 + 2 * z + 1) = _
              rw [lawC_at (by omega), ← q.2]
              congr 1
              omega
          have c1 : lawC (gi g 2) r3 1 = L.length := by
            rw [lawC_at (by decide)]
            exact fn
          have d12 : DynX h1 h2 := ⟨by have := C.1; omega, fun q q0 q1 => ⟨(C.2.1 q q1).1, (C.2.1 q q1).2.1, (C.2.1 q q1).2.2.1⟩⟩
          have d24 : DynX h2 h4 := by
            rw [z4, z3]
            exact (DynX.rfl'.sr (by decide)).si (by decide)
          have dy : DynX hX h4 := (F.dyn.trans d12).trans d24
          have X4 : ∀ q k, q < 76 → ¬ (q = 1 ∧ k = 16) → gi h4 q k = gi h1 q k := fun q k a1 a2 => by rw [z4, z3, gi_ne (by omega), gi_xr, (C.2.1 q (by omega)).2.1]
          have R4 : ∀ q k, q < 76 → ¬ (q = 13 ∧ k = r3) → rf h4 q k = rf hX q k := fun q k a1 a2 => by
            rw [z4]
            show rf h3 q k = _
            rw [z3, rf_sr, if_neg a2, (C.2.1 q (by omega)).2.2.1, F.2.1]
          have ic : InvC (lawC (gi g 2) r3) := law_InvC (iv.2.2.2.2.2.2 r3 (by omega) (by omega)) mc.1 ec AC (fun j j0 j1 => by
            rw [lawC_at (by omega), lawC_at (by omega)]
            exact gg _ (by omega) (by omega))
          have T' : TxtR h4 (hn h1) (lawC (gi g 2) r3) := (law_txt (hE := g3) k7 C e0 el ⟨by omega, by omega⟩ A.1 A.2 A3 c1 ef ec).dyn d24
          have ra : RA h4 1 (gi g 2) := law_RA (t := hn h1) S.1 er (by omega) dy (fun q k a1 a2 a3 => (X4 q k (by omega) a3).trans (F.1 q k (by omega))) (by rw [z4, gi_eq]) (fun i a => R4 13 i (by decide) (fun z => a z.2)) (by
            rw [z4]
            show rf h3 13 r3 = _
            rw [z3, rf_eq]) T' f3 (fun k a1 a2 => gg k a1 (by omega)) ic
          have ru : RU h4 g := S.2.1.to ((X4 _ _ (by omega) (by omega)).trans (F.1 _ _ (by omega))) (fun k => (X4 _ _ (by omega) (by omega)).trans (F.1 _ _ (by omega))) ((fr _ _ (by omega)).trans (FE.1 _ _ (by omega))) (fun k => (fr _ _ (by omega)).trans (FE.1 _ _ (by omega))) (fun k => (fr _ _ (by omega)).trans (FE.1 _ _ (by omega))) (gg _ (by omega) (by omega)) (fun u z => back_law er (by omega) f3 (fun k a1 a2 => gg k a1 (by omega)) ra.2.2.2.2.2.2.2.2 z)
          have T : RRs n h4 g := S.txt ra ru dy (fun q k z => (X4 q k (by omega) (by omega)).trans (F.x q k z)) (fun q a1 a2 k => R4 q k (by omega) (by omega)) (fun q k z => (fr q k (by omega)).trans (FE.m q k z)) (fun q z k => (fl q k).trans (FA.2 q k (by omega))) ⟨(X4 _ _ (by omega) (by omega)).trans e29, (fr _ _ (by omega)).trans gi_eq⟩ (by
            rw [X4 _ _ (by omega) (by omega), fr _ _ (by omega), gi_nk (by decide), gi_nk (by decide), e8]
            exact M3.2.1.2.2.1.2.symm)
          exact RQ.mk (by omega) (T.ok hq (by omega))
    · refine ⟨0, rfl, fun _ => ⟨fun j j0 j1 => ?_, fun h2 z2 => hQ _ _ ?_⟩, fun z => absurd rfl z⟩
      · rw [F.1 _ _ (by omega)]
        exact S.b5 j j0 j1
      · refine w_X8_law fun g1 w1 => ⟨fun z => absurd z (by omega), fun _ => l_X8_law_28 (c_beginText OK em (Or.inl rfl) ?_ (fun x x0 x1 => ?_) ?_ (fun g2 St Fg => ⟨rfl, B.1 em _ _ _ g2 St (fun g3 F3 bad => l_X8_law_64 (c_endBad bad (fun g4 F4 f19 f18 => ⟨rfl, fun z => ?_, fun _ => ⟨by decide, fun j j0 j1 => ?_, fun g5 w5 => ?_⟩⟩)))⟩))⟩
        · rw [w1, gi_nk (by decide), en, t1]
        · rw [w1, gi_no (by decide), eT]
          exact (t4 x x0 (by omega)).1.symm
        · rw [w1]
          exact TB
        · rw [gi_nk (by decide), gi_nk (by decide)] at z
          omega
        · subst w1
          rw [gi_no (by decide), gi_no (by decide), ((Fg.trans F3).trans F4).1 _ _ (by omega), gi_no (by decide), gi_no (by decide)]
          exact S.b7 j j0 j1
        · subst w1
          have T := S.bad F (FrE.of ((Fg.trans F3).trans F4) e20) e29 gi_eq (by
            rw [gi_nk (by decide), gi_nk (by decide), f18]
            exact e8)
          rw [z2, w5]
          exact RQ.mk rfl (T.ref hq (by omega))
  · rw [z1, gi_no (by decide)]
    exact S.b5 j j0 j1
  · refine hQ _ _ (w_X8_law fun g1 w1 => ⟨fun _ g2 w2 => ⟨by decide, fun j j0 j1 => ?_, fun g3 w3 => ?_⟩, fun z => absurd (show gi hM 2 3 = 6 by omega) z⟩)
    · rw [w2, w1, gi_no (by decide), gi_no (by decide)]
      exact S.b7 j j0 j1
    · have F : FrD hX h1 := by
        rw [z1]
        exact FrD.si ⟨fun _ _ _ => rfl, rfl, rfl, rfl, rfl⟩ (by omega)
      have G : FrE hM g2 := ⟨fun q x z => by rw [w2, w1, gi_ne (by omega), gi_ne (by omega)], fun q x z => by rw [w2, w1]; rfl⟩
      have T : RRs n h1 g2 := S.bad F G (by rw [z1, gi_eq]) (by rw [w2, gi_eq]) (by
        rw [z1, gi_no (by decide), w2, w1, gi_nk (by decide), gi_nk (by decide)]
        exact s5.2.1)
      rw [z2, w3]
      exact RQ.mk rfl (T.ref hq (by omega))
