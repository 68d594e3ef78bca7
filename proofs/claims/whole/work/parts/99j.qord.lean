/-! the query orders, both sides -/
theorem WM_rgh {G : GT} {d b : Nat} {y : Mth} {vs : List AV} {h : AH} {Q : Option AV → AH → Prop} (k : OkH h → Gd G h → WM G d b y vs h Q) : WM G d b y vs h Q := fun l D cA w0 sz ad hO hG hV => k hO hG l D cA w0 sz ad hO hG hV
theorem FrE.of2 {a h : AH} {m : Int} (F : FrR (si a 0 20 m) h) (e20 : gi a 0 20 = 0) : FrE a (si (si h 0 20 0) 0 13 0) := ⟨fun q x z => by
  by_cases c : q = 0 ∧ x = 20
  · obtain ⟨c1, c2⟩ := c
    subst c1 c2
    rw [gi_nk (by decide), gi_eq, e20]
  · rw [gi_ne (by omega), gi_ne (by omega), F.1 q x (by omega), gi_ne (by omega)], fun q x z => F.2 q x z⟩
theorem kpM_50 (h : AH) : gi (kpM h) 0 50 = 0 := by
  unfold kpM
  rw [gi_nk (by decide), gi_eq]
theorem kpM_51 (h : AH) : gi (kpM h) 0 51 = -1 := by
  unfold kpM
  rw [gi_eq]
/-- the slot that names the order is emptied -/
theorem RRs.slot {n : Nat} {hX hM : AH} (S : RRs n hX hM) : RRs n (si hX 0 11 (-1)) (si (si hM 0 0 0) 0 52 (-1)) := by
  have S1 : RRs n hX (si hM 0 0 0) := S.same SameX.rfl' (SameM.rfl'.si (by unfold coreM; omega))
  refine S1.ord ?_ (S1.2.1.to2 (gi_no (by decide)) (fun k => gi_no (by decide)) (gi_nk (by decide)) (fun k _ => gi_no (by decide)) (fun k => gi_no (by decide)) (giF_no (by decide))) ((FrX.rfl' (a := hX)).wi (by unfold eOe; omega)) (by rw [gi_eq, gi_eq]) ⟨fun q k z => gi_ne (by omega), fun q k _ _ _ _ => rfl⟩
  rw [giF_no (by decide)]
  exact S1.1.to (fun c hc k => gi_no (by omega)) (DynX.rfl'.si (by decide)) (fun i => rfl)
/-- both sides ahead of the loops -/
theorem RRs.keep {n : Nat} {hX hM : AH} (S : RRs n hX hM) : RRs n (si (si hX 0 12 0) 0 13 (-1)) (kpM hM) := by
  have F : FrX eOe hX (si (si hX 0 12 0) 0 13 (-1)) := ((FrX.rfl' (a := hX)).wi (by unfold eOe; omega)).wi (by unfold eOe; omega)
  have e2 : gi (cpy hM 2 5 5 1003 59) 2 = gi hM 2 := funext fun k => cpy_out (by omega)
  have S1 : RRs n (si (si hX 0 12 0) 0 13 (-1)) (cpy hM 2 5 5 1003 59) := by
    refine S.ord ?_ (S.2.1.to2 (by rw [gi_no (by decide), gi_no (by decide)]) (fun k => by rw [gi_no (by decide), gi_no (by decide)]) (cpy_out (by omega)) (fun k hk => cpy_out (by omega)) (fun k => cpy_out (by omega)) e2) F ?_ ⟨fun q k z => cpy_out (by unfold eRn at z; omega), fun q k _ _ _ _ => rfl⟩
    · rw [e2]
      exact S.1.to (fun c hc k => by rw [gi_no (by omega), gi_no (by omega)]) ((DynX.rfl'.si (by decide)).si (by decide)) (fun i => rfl)
    · rw [gi_nk (by decide), gi_nk (by decide), cpy_out (by omega)]
      exact S.2.2.2.2.1.2.2.2.1
  refine S1.same SameX.rfl' ⟨fun q k z => ?_, fun q k z => rfl⟩
  unfold coreM at z
  unfold kpM
  rw [gi_ne (by omega), gi_ne (by omega), cpy_out (by omega), cpy_out (by omega)]
theorem q_orders {n e b dm : Nat} {hX hM : AH} {Q : Option AV → AH → Prop} (R : RR n hX hM) (hq : n < 512) (hQ : ∀ rx hX', WM GM (dm + 10) 0 mX8_orders [vR (some 0)] hM (fun rm hM' => RQ n rx rm hX' hM') → Q rx hX') : WM GX (33 + e) b mX7_orders [vR (some 0)] hX Q := by
  refine WM_rgh fun _ hG => ?_
  have g1 : rf hX 35 1 = some 36 := hG.2 35 1 36 rfl
  have g3 : rf hX 35 3 = some 37 := hG.2 35 3 37 rfl
  have S := R.s
  have s6 := S.2.2.2.2.2.1
  have iv := S.1.2.2
  have e20 := s6.1
  have TB : TabM hM := s6.2
  have S0 := S.slot
  obtain ⟨t1, t2, t3, t4⟩ := S.2.2.2.2.1.1
  have ru := S.2.1
  have f20 : gi (si (si hM 0 0 0) 0 52 (-1)) 0 20 = 0 := by rw [gi_nk (by decide), gi_nk (by decide), e20]
  refine WM_d (show 20 + e + 13 = 33 + e by omega) (w_X7_orders fun h1 z1 => ?_)
  refine WM_d (show 32 + e = 20 + e + 12 by omega) (c_X3_reads (n := gi hX 29 1) (Or.inr rfl) (fun x x0 x1 => ?_) ⟨by rw [z1, gi_no (by decide)], by omega, by omega⟩ (fun h2 X L eT en em OK F e29 e8 e0 hR e2 A E => ?_) (fun h2 X j eT en em OK F e29 e8 hj B => ?_))
  · rw [z1, gi_no (by decide), (t4 x x0 (by omega)).1]
    exact (t4 x x0 (by omega)).2
  · have p41 : gi h2 41 1 = gi hM 0 8 := by rw [F.1 _ _ (by omega), z1, gi_no (by decide)]; exact ru.1
    obtain ⟨ah, ea⟩ : ∃ ah, gi h2 41 1 = ah := ⟨_, rfl⟩
    refine ⟨1, rfl, fun z => absurd z (by decide), fun _ h3 z3 h4 z4 => ?_⟩
    rw [ea]
    have eX0 : h4 = si (si h2 0 12 0) 0 13 (-1) := by rw [z4, z3]
    have G4 : ∀ q k, q ≠ 0 → gi h4 q k = gi h2 q k := fun q k z => by rw [eX0, gi_no z, gi_no z]
    have r4 : rf h4 = rf hX := by
      rw [eX0]
      show rf h2 = _
      rw [F.2.1, z1]
      rfl
    have F36 : gi h4 36 = gi h2 36 := funext fun k => G4 _ _ (by decide)
    have F37 : gi h4 37 = gi h2 37 := funext fun k => G4 _ _ (by decide)
    have SX : SaX h4 L := by
      refine ⟨⟨by rw [r4]; exact g1, by rw [r4]; exact g3, by rw [G4 _ _ (by decide)]; exact e2, ?_⟩, fun j r hj => ?_, by rw [G4 _ _ (by decide)]; exact e0, hR.2, fun j rc hj => E.2.2 rc (List.mem_of_getElem? hj) em⟩
      · rw [F37, G4 _ _ (by decide)]
        exact A.2
      · rw [F36, F37, G4 _ _ (by decide)]
        exact A.1 j r hj
    have RA4 : RA h4 1 (gi hM 2) := by
      have RA2 : RA h2 1 (gi hM 2) := F.ra (by rw [z1]; exact S.1.to (fun c hc k => gi_no (by omega)) (DynX.rfl'.si (by decide)) (fun i => rfl))
      rw [eX0]
      exact RA2.to (fun c hc k => by rw [gi_no (by omega), gi_no (by omega)]) ((DynX.rfl'.si (by decide)).si (by decide)) (fun i => rfl)
    have b5 : ∀ j : Int, 0 ≤ j → j < 5 → 0 ≤ gi h4 14 j ∧ gi h4 14 j ≤ 1000000 := fun j j0 j1 => by
      rw [G4 _ _ (by decide), F.1 _ _ (by omega), z1, gi_no (by decide)]
      exact S.b5 j j0 j1
    have e41 : gi h4 41 1 = ah := (G4 _ _ (by decide)).trans ea
    have ha : 0 ≤ ah ∧ ah ≤ 16 := by
      have := ru.2.1
      have := ru.2.2.1
      omega
    have IX : OrX h4 (gi hM 2) ah 0 (-1) (gi hM 2) h4 := ⟨RA4, by rw [e41, Int.add_zero], ⟨by rw [eX0, gi_nk (by decide), gi_eq], by rw [eX0, gi_eq]⟩, by decide, FrX.rfl', Out.rfl', Or.inl ⟨rfl, rfl⟩⟩
    refine lp_clauses (r0 := gi hM 2) (B := OrB n h4 L (gi hM 2) ah) (dm := dm) (P := fun rx hX' rm hM' => RQ n rx rm hX' hM') (y1 := ah) SX (fun hM0 bm => ⟨bm.1, bm.2.1⟩) ha (fun hX1 r1 dn1 lt1 I1 d1 K1 => ord_fin hq ha I1 d1 K1) (fun c hX1 r1 dn1 lt1 _ I1 d1 K1 => ord_bad iv b5 hq ha e41 I1 d1 K1) L.length 0 0 (-1) (gi hM 2) h4 (Nat.zero_add _) (Int.le_refl 0) (by decide) IX (fun rx hX' H => hQ rx hX' (w_X8_orders fun k1 w1 k2 w2 => ?_))
    subst w2 w1
    refine c_beginText OK em (Or.inr rfl) ?_ (fun x x0 x1 => ?_) ?_ (fun g2 St Fg => ⟨rfl, E.2.1 em _ _ _ g2 St (fun g i p M hc e21 F3 A3 => ordM_ok M hc ?_)⟩)
    · rw [gi_nk (by decide), gi_nk (by decide), en, t1]
    · rw [gi_no (by decide), gi_no (by decide), eT, z1, gi_no (by decide)]
      exact (t4 x x0 (by omega)).1.symm
    · exact TB
    · have FA := Fg.trans F3
      have FE := FrE.of2 FA f20
      have T1 : RRs n h2 (si (si g 0 20 0) 0 13 0) := S0.bad (by rw [← z1]; exact F) FE e29 gi_eq (by
        rw [gi_nk (by decide), gi_nk (by decide), e8]
        exact M.2.1.2.2.1.2.symm)
      have T2 := T1.keep
      rw [← eX0] at T2
      have gg : ∀ {q : Nat} {k : Int}, ¬ (q = 7 ∨ q = 8 ∨ (q = 5 ∧ 1003 ≤ k ∧ k < 1062) ∨ (q = 0 ∧ (k = 50 ∨ k = 51 ∨ k = 20 ∨ k = 13))) → gi (kpM (si (si g 0 20 0) 0 13 0)) q k = gi g q k := fun z => by rw [kpM_gi _ (by omega), gi_ne (by omega), gi_ne (by omega)]
      have q2 : gi (kpM (si (si g 0 20 0) 0 13 0)) 2 = gi hM 2 := funext fun k => by rw [gg (by omega), FA.1 _ _ (by omega), gi_no (by decide), gi_no (by decide), gi_no (by decide)]
      have e8' : gi g 0 8 = ah := by rw [FA.1 _ _ (by omega), gi_nk (by decide), gi_nk (by decide), gi_nk (by decide), ← p41, ea]
      have q8 : gi (kpM (si (si g 0 20 0) 0 13 0)) 0 8 = ah := (gg (by omega)).trans e8'
      have cd : codeH (kpM (si (si g 0 20 0) 0 13 0)) = codeH g := by
        unfold codeH
        rw [show gi (kpM (si (si g 0 20 0) 0 13 0)) 11 = gi g 11 from funext fun k => gg (by omega), show gi (kpM (si (si g 0 20 0) 0 13 0)) 12 = gi g 12 from funext fun k => gg (by omega), gg (q := 0) (k := 23) (by omega)]
      have AC := M.2.2.2.2.1.2.2
      rw [em] at AC
      have SM : SaM (kpM (si (si g 0 20 0) 0 13 0)) L := ⟨by rw [cd]; exact AC, fun j r hj => by
        rw [cd, show gi (kpM (si (si g 0 20 0) 0 13 0)) 29 = gi g 29 from funext fun k => gg (by omega)]
        exact A3 j r hj, by rw [kpM_gi _ (by omega), gi_nk (by decide), gi_eq], by rw [gg (by omega)]; exact e21⟩
      rw [e8']
      refine H _ _ ⟨SM, q2, T2, q8, kpM_5 _, kpM_7 _, kpM_8 _⟩ ⟨by rw [q2]; exact RA4, ⟨0, T2.2.1.o⟩, by rw [e41, Int.add_zero], ⟨IX.2.2.1.1, IX.2.2.1.2, kpM_50 _, kpM_51 _⟩, by decide, FrX.rfl', ⟨fun _ _ _ => rfl, fun _ _ _ _ _ _ => rfl⟩, Out.rfl', Or.inl ⟨rfl, rfl⟩, fun i _ => rfl⟩ q2
  · refine ⟨0, rfl, fun _ => ⟨fun j j0 j1 => ?_, fun h3 z3 => hQ _ _ (w_X8_orders fun k1 w1 k2 w2 => ?_)⟩, fun z => absurd rfl z⟩
    · rw [F.1 _ _ (by omega), z1, gi_no (by decide)]
      exact S.b5 j j0 j1
    · subst w2 w1
      refine c_beginText OK em (Or.inr rfl) ?_ (fun x x0 x1 => ?_) ?_ (fun g2 St Fg => ⟨rfl, B.2 em _ _ _ g2 St (fun g F3 bad => l_X8_orders_46 (c_endBad bad (fun g4 F4 f19 f18 => ⟨rfl, fun z => ?_, fun _ => ⟨by decide, fun j j0 j1 => ?_, fun g5 w5 => ?_⟩⟩)))⟩)
      · rw [gi_nk (by decide), gi_nk (by decide), en, t1]
      · rw [gi_no (by decide), gi_no (by decide), eT, z1, gi_no (by decide)]
        exact (t4 x x0 (by omega)).1.symm
      · exact TB
      · rw [gi_nk (by decide), gi_nk (by decide)] at z
        omega
      · rw [gi_no (by decide), gi_no (by decide), ((Fg.trans F3).trans F4).1 _ _ (by omega), gi_no (by decide), gi_no (by decide), gi_no (by decide)]
        exact S.b7 j j0 j1
      · have T := S0.bad (hX' := h2) (by rw [← z1]; exact F) (FrE.of2 ((Fg.trans F3).trans F4) f20) e29 gi_eq (by
          rw [gi_nk (by decide), gi_nk (by decide), f18]
          exact e8)
        rw [z3, w5]
        exact RQ.mk rfl (T.ref hq (by omega))
