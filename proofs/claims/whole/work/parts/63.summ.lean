/-! summers: rows and counts -/
abbrev S3 : Type := (Int → Int) × Int × Int
def smNext (s : Int) : Int := Int.tmod (s * 1103 + 12345) 1000003
def smCat (r : Int → Int) (d : Int) : Int := rCatch r d (r (15 + d)) (r (39 + r (15 + d))) (r (23 + d))
def smF (r : Int → Int) (d : Int) : Int → Int := fishR r d (smCat r d)
def smS (d : Int) (p : S3) : S3 :=
  if p.1 (15 + d) = -1 then p
  else if rSlam (smF p.1 d) d (p.1 (15 + d)) ≤ Int.tmod (smNext p.2.1) 10 then (smF p.1 d, smNext p.2.1, p.2.2)
  else (loseR (smF p.1 d) d, smNext p.2.1, p.2.2 + 1)
def smD : Nat → Int → S3 → S3
  | 0, _, p => p
  | n + 1, d, p => smD n (d + 1) (smS d p)
def smT (p : S3) : S3 := (tideR p.1, p.2.1, p.2.2 + tideN p.1)
def smY : Nat → S3 → S3
  | 0, p => p
  | n + 1, p => if 999 ≤ p.1 5 then p else smY n (smT (smD (p.1 1).toNat 0 p))
theorem smNext_R {s : Int} (h : 0 ≤ s ∧ s ≤ 1000003) : 0 ≤ smNext s ∧ smNext s < 1000003 := by
  unfold smNext
  rw [Int.tmod_eq_emod_of_nonneg (by omega)]
  omega
def lostR (r : Int → Int) : Int := sumZ (fun i => b2i (r (7 + i) = -1 ∧ r (15 + i) = -1)) (r 1).toNat 0
theorem lostR_R {r : Int → Int} (h : 0 ≤ r 1 ∧ r 1 ≤ 8) : 0 ≤ lostR r ∧ lostR r ≤ 8 := by
  have := sumZ_le (f := fun i => b2i (r (7 + i) = -1 ∧ r (15 + i) = -1)) (m := 1) (r 1).toNat 0 (fun j _ _ => by
    rcases b2i_01 (r (7 + j) = -1 ∧ r (15 + j) = -1) with e | e <;> omega)
  unfold lostR
  omega
/-- what a step of the summers keeps -/
def SmK (r0 : Int → Int) (p : S3) : Prop := InvR p.1 ∧ Out r0 p.1 ∧ 0 ≤ p.2.1 ∧ p.2.1 ≤ 1000003
theorem fish_lost {r : Int → Int} {d x : Int} (V : InvR r) (hd : 0 ≤ d ∧ d < r 1) (hs : r (15 + d) ≠ -1) : lostR (fishR r d x) = lostR r := by
  have V1 := V.1
  have V2 := V.2.1 d hd.1 hd.2
  have cb : 0 ≤ r (15 + d) ∧ r (15 + d) < 25 := by omega
  clear V2
  unfold lostR
  have e1 : fishR r d x 1 = r 1 := Out.fish (by omega) cb 1 (by omega)
  rw [e1]
  refine sumZ_congr _ _ (fun j j0 j1 => ?_)
  have a : fishR r d x (7 + j) = r (7 + j) := by
    unfold fishR
    rw [up1_ne (by omega), up1_ne (by omega)]
  have b : fishR r d x (15 + j) = r (15 + j) := by
    unfold fishR
    rw [up1_ne (by omega), up1_ne (by omega)]
  rw [a, b]
theorem lose_lost {r : Int → Int} {d : Int} (V : InvR r) (hd : 0 ≤ d ∧ d < r 1) (hs : r (15 + d) ≠ -1) : lostR (loseR r d) = lostR r + 1 := by
  have V1 := V.1
  have V2 := V.2.1 d hd.1 hd.2
  have hh : r (7 + d) = -1 := by omega
  clear V2
  have e1 : loseR r d 1 = r 1 := Out.lose (by omega) 1 (by omega)
  unfold lostR
  rw [e1]
  refine sumZ_up1 (x := d) _ _ (fun j j0 j1 jd => ?_) hd.1 (by omega) ?_
  · have a : loseR r d (7 + j) = r (7 + j) := by
      unfold loseR
      rw [up1_ne (by omega), up1_ne (by omega)]
    have b : loseR r d (15 + j) = r (15 + j) := by
      unfold loseR
      rw [up1_ne (by omega), up1_ne (by omega)]
    rw [a, b]
  · have a : loseR r d (7 + d) = r (7 + d) := by
      unfold loseR
      rw [up1_ne (by omega), up1_ne (by omega)]
    have b : loseR r d (15 + d) = -1 := by
      unfold loseR
      rw [up1_ne (by omega), up1_eq]
    rw [b2i_t (p := loseR r d (7 + d) = -1 ∧ loseR r d (15 + d) = -1) ⟨by rw [a]; exact hh, b⟩, b2i_f (p := r (7 + d) = -1 ∧ r (15 + d) = -1) (fun z => hs z.2)]
    rfl
theorem sea_lost {r : Int → Int} {d v : Int} (hr : 0 ≤ r 1 ∧ r 1 ≤ 8) (hd : 0 ≤ d ∧ d < r 1) (hs : r (15 + d) ≠ -1) (hv : v ≠ -1) : lostR (up1 r (15 + d) v) = lostR r := by
  unfold lostR
  rw [up1_ne (by omega)]
  refine sumZ_congr _ _ (fun j j0 j1 => ?_)
  rw [up1_ne (show (7 : Int) + j ≠ 15 + d by omega)]
  by_cases e : j = d
  · subst e
    rw [up1_eq]
    exact b2i_c (by omega)
  · rw [up1_ne (by omega)]
theorem tdD_lost : ∀ (n : Nat) (d : Int) (r : Int → Int), 0 ≤ d → d + n = r 1 → InvR r → lostR (tdD n d r) = lostR r + tdN n d r
  | 0, _, _, _, _, _ => by
    unfold tdD tdN
    omega
  | n + 1, d, r, h0, h1, V => by
    have V1 := V.1
    have V2 := V.2.1 d h0 (by omega)
    have V3 : -1 ≤ r (15 + d) ∧ r (15 + d) ≤ 24 := by omega
    clear V2
    unfold tdD tdN
    by_cases c : r (15 + d) = -1
    · rw [if_pos c, if_pos c]
      exact tdD_lost n (d + 1) r (by omega) (by omega) V
    rw [if_neg c, if_neg c]
    by_cases c2 : zbes (r (15 + d)) (r (104 + r (15 + d))) = -1
    · rw [if_pos c2, if_pos c2, tdD_lost n (d + 1) _ (by omega) (by rw [Out.lose (r := r) (d := d) (by omega) 1 (by omega)]; omega) (V.lose (by omega) c), lose_lost V (by omega) c]
      omega
    · have zb := zbes_R (c := r (15 + d)) (x := r (104 + r (15 + d))) (by omega)
      rw [if_neg c2, if_neg c2, tdD_lost n (d + 1) _ (by omega) (by rw [up1_ne (by omega)]; omega) (V.sea (by omega) c (by omega)), sea_lost (by omega) (by omega) c c2]
theorem tdC_lost : ∀ (n : Nat) (c : Int) (r : Int → Int), 0 ≤ c → c + n ≤ 25 → 0 ≤ r 1 ∧ r 1 ≤ 8 → lostR (tdC n c r) = lostR r
  | 0, _, _, _, _, _ => rfl
  | n + 1, c, r, h0, h1, hr => by
    unfold tdC
    rw [tdC_lost n (c + 1) _ (by omega) (by omega) (by rw [up1_ne (by omega)]; exact hr)]
    unfold lostR
    rw [up1_ne (by omega)]
    refine sumZ_congr _ _ (fun j j0 j1 => ?_)
    rw [up1_ne (by omega), up1_ne (by omega)]
theorem tide_lost {r : Int → Int} (V : InvR r) : lostR (tideR r) = lostR r + tideN r := by
  have V1 := V.1
  have O := tdD_O r (r 1).toNat 0 r (by decide) (by omega) Out.rfl'
  have e1 : tdD (r 1).toNat 0 r 1 = r 1 := O 1 (by omega)
  have a : lostR (tideR r) = lostR (tdC 25 0 (tdD (r 1).toNat 0 r)) := by
    unfold tideR lostR
    dsimp only
    rw [up1_ne (by omega)]
    have e2 : tdC 25 0 (tdD (r 1).toNat 0 r) 1 = r 1 := tdC_O r 25 0 _ (by decide) (by decide) O 1 (by omega)
    rw [e2]
    refine sumZ_congr _ _ (fun j j0 j1 => ?_)
    rw [up1_ne (by omega), up1_ne (by omega)]
  rw [a, tdC_lost 25 0 _ (by decide) (by decide) (by omega), tdD_lost _ _ _ (by decide) (by omega) V]
  rfl
theorem smCat_R {r : Int → Int} {d : Int} (V : InvR r) (hd : 0 ≤ d ∧ d < r 1) (hs : r (15 + d) ≠ -1) : 0 ≤ smCat r d ∧ smCat r d ≤ r (39 + r (15 + d)) := by
  have V2 := V.2.1 d hd.1 hd.2
  have I3 := V.2.2.2.1 (r (15 + d)) (by omega) (by omega)
  have := rCatch_R r d (r (15 + d)) (r (39 + r (15 + d))) (r (23 + d)) I3.1
  unfold smCat
  omega
theorem smF_15 {r : Int → Int} {d : Int} (hd : 0 ≤ d ∧ d < 8) (hc : 0 ≤ r (15 + d) ∧ r (15 + d) < 25) : smF r d (15 + d) = r (15 + d) := by
  unfold smF fishR
  rw [up1_ne (by omega), up1_ne (by omega)]
theorem smS_K {r0 : Int → Int} {d : Int} {p : S3} (K : SmK r0 p) (hd : 0 ≤ d ∧ d < r0 1) : SmK r0 (smS d p) ∧ lostR (smS d p).1 - (smS d p).2.2 = lostR p.1 - p.2.2 ∧ (smS d p).1 5 = p.1 5 ∧ 0 ≤ (smS d p).2.2 - p.2.2 ∧ (smS d p).2.2 - p.2.2 ≤ 1 := by
  obtain ⟨V, O, k1, k2⟩ := K
  have V1 := V.1
  have e1 : p.1 1 = r0 1 := O 1 (by omega)
  have hd' : 0 ≤ d ∧ d < p.1 1 := by omega
  have sn := smNext_R ⟨k1, k2⟩
  unfold smS
  by_cases c : p.1 (15 + d) = -1
  · rw [if_pos c]
    exact ⟨⟨V, O, k1, k2⟩, rfl, rfl, by omega, by omega⟩
  have V2 := V.2.1 d hd'.1 hd'.2
  have cb : 0 ≤ p.1 (15 + d) ∧ p.1 (15 + d) < 25 := by omega
  clear V2
  have W : InvR (smF p.1 d) := V.fishes hd' c (smCat_R V hd' c)
  have OF : Out p.1 (smF p.1 d) := Out.fish (by omega) cb
  have lf : lostR (smF p.1 d) = lostR p.1 := fish_lost V hd' c
  have e15 := smF_15 (r := p.1) (d := d) (by omega) cb
  have e5 : smF p.1 d 5 = p.1 5 := by
    unfold smF fishR
    rw [up1_ne (by omega), up1_ne (by omega)]
  have e11 : smF p.1 d 1 = p.1 1 := OF 1 (by omega)
  rw [if_neg c]
  by_cases c2 : rSlam (smF p.1 d) d (p.1 (15 + d)) ≤ Int.tmod (smNext p.2.1) 10
  · rw [if_pos c2]
    exact ⟨⟨W, O.trans OF, sn.1, by show smNext p.2.1 ≤ 1000003; omega⟩, by show lostR (smF p.1 d) - p.2.2 = _; omega, e5, by show 0 ≤ p.2.2 - p.2.2; omega, by show p.2.2 - p.2.2 ≤ 1; omega⟩
  · rw [if_neg c2]
    have ll := lose_lost W (d := d) (by omega) (by rw [e15]; exact c)
    refine ⟨⟨W.lose (by omega) (by rw [e15]; exact c), (O.trans OF).trans (Out.lose (by omega)), sn.1, by show smNext p.2.1 ≤ 1000003; omega⟩, by show lostR (loseR (smF p.1 d) d) - (p.2.2 + 1) = _; omega, ?_, by show 0 ≤ p.2.2 + 1 - p.2.2; omega, by show p.2.2 + 1 - p.2.2 ≤ 1; omega⟩
    show loseR (smF p.1 d) d 5 = _
    unfold loseR
    rw [up1_ne (by omega), up1_ne (by omega), e5]
theorem smD_K {r0 : Int → Int} : ∀ (n : Nat) (d : Int) (p : S3), SmK r0 p → 0 ≤ d → d + n = r0 1 → SmK r0 (smD n d p) ∧ lostR (smD n d p).1 - (smD n d p).2.2 = lostR p.1 - p.2.2 ∧ (smD n d p).1 5 = p.1 5 ∧ 0 ≤ (smD n d p).2.2 - p.2.2 ∧ (smD n d p).2.2 - p.2.2 ≤ n
  | 0, d, p, K, _, _ => ⟨K, rfl, rfl, by show 0 ≤ p.2.2 - p.2.2; omega, by show p.2.2 - p.2.2 ≤ ((0 : Nat) : Int); omega⟩
  | n + 1, d, p, K, h0, h1 => by
    obtain ⟨a1, a2, a3, a4, a5⟩ := smS_K K (d := d) (by omega)
    obtain ⟨b1, b2, b3, b4, b5⟩ := smD_K n (d + 1) _ a1 (by omega) (by omega)
    unfold smD
    exact ⟨b1, b2.trans a2, b3.trans a3, by omega, by omega⟩
theorem smT_K {r0 : Int → Int} {p : S3} (K : SmK r0 p) (h5 : p.1 5 < 999) : SmK r0 (smT p) ∧ lostR (smT p).1 - (smT p).2.2 = lostR p.1 - p.2.2 ∧ 0 ≤ (smT p).2.2 - p.2.2 ∧ (smT p).2.2 - p.2.2 ≤ 8 := by
  obtain ⟨V, O, k1, k2⟩ := K
  have V1 := V.1
  have tl := tide_lost V
  have tn := tdN_R (p.1 1).toNat 0 p.1
  unfold smT
  refine ⟨⟨tide_V V h5, O.trans (Out.tide (by omega)), k1, k2⟩, ?_, ?_, ?_⟩
  · show lostR (tideR p.1) - (p.2.2 + tideN p.1) = _
    omega
  · show 0 ≤ p.2.2 + tideN p.1 - p.2.2
    unfold tideN
    omega
  · show p.2.2 + tideN p.1 - p.2.2 ≤ 8
    unfold tideN
    omega
theorem smY_K {r0 : Int → Int} : ∀ (n : Nat) (p : S3), SmK r0 p → SmK r0 (smY n p) ∧ lostR (smY n p).1 - (smY n p).2.2 = lostR p.1 - p.2.2
  | 0, p, K => ⟨K, rfl⟩
  | n + 1, p, K => by
    have V1 := K.1.1
    have e1 : p.1 1 = r0 1 := K.2.1 1 (by omega)
    unfold smY
    by_cases c : 999 ≤ p.1 5
    · rw [if_pos c]
      exact ⟨K, rfl⟩
    rw [if_neg c]
    obtain ⟨a1, a2, a3, -, -⟩ := smD_K (p.1 1).toNat 0 p K (by decide) (by omega)
    obtain ⟨b1, b2, -, -⟩ := smT_K a1 (by omega)
    obtain ⟨d1, d2⟩ := smY_K n _ b1
    exact ⟨d1, d2.trans (b2.trans a2)⟩
/-! the class's summers -/
def eS (q : Nat) (k : Int) : Prop := (16 ≤ q ∧ q ≤ 28) ∨ q = 39 ∨ q = 40
theorem EI_S : ∀ q k, EI 16 q k → eS q k := fun q k z => by
  unfold EI at z
  unfold eS
  omega
theorem RA.row {h : AH} {o : Nat} {r r' : Int → Int} (A : RA h o r) (e : r' = r) : RA h o r' := e ▸ A
theorem lp_smX72 {dd b : Nat} {Q : Option AV → AH → Prop} {r0 : Int → Int} {t N : Int} : ∀ (n : Nat) (d : Int) (p : S3) (h : AH), SmK r0 p → RA h 16 p.1 → 0 ≤ d → d + n = r0 1 → (∀ h', RA h' 16 (smD n d p).1 → FrX eS h h' → WM GX (dd + 3) 0 mX0_flow [vR (some 16)] h' (fun r h1 => ∃ u, r = some (vI u) ∧ R32 (t + 1) ∧ Lp_X7_summers_50 dd b Q N (smD n d p).2.1 (t + 1) h1)) → Lp_X7_summers_72 dd b Q N p.2.1 t d h
  | 0, d, p, h, K, A, h0, h1, k => by
    have e1 : p.1 1 = r0 1 := K.2.1 1 (by omega)
    have ed : p.1 1 = gi h 16 2 := A.1.doors
    exact l_X7_summers_72 ⟨fun _ => k h A FrX.rfl', fun z => by omega⟩
  | n + 1, d, p, h, K, A, h0, h1, k => by
    have o16 : isl 16 := by decide
    obtain ⟨K', -, -, -, -⟩ := smS_K K (d := d) (by omega)
    have V := K.1
    have V1 := V.1
    have e1 : p.1 1 = r0 1 := K.2.1 1 (by omega)
    have ed : p.1 1 = gi h 16 2 := A.1.doors
    have hd : 0 ≤ d ∧ d < p.1 1 := by omega
    have d8 : 0 ≤ d ∧ d < 8 := by omega
    have ec : p.1 (15 + d) = gi h 23 d := A.1.cell d8
    unfold smD at k
    refine l_X7_summers_72 ⟨fun z => by omega, fun _ => ⟨d8, ?_⟩⟩
    rw [← ec]
    refine ⟨fun z => ⟨by omega, ?_⟩, fun z => ?_⟩
    · have e : smS d p = p := by
        unfold smS
        rw [if_pos z]
      rw [e] at k
      exact lp_smX72 n (d + 1) p h K A (by omega) (by omega) k
    have V2 := V.2.1 d hd.1 hd.2
    have cb : 0 ≤ p.1 (15 + d) ∧ p.1 (15 + d) < 25 := by omega
    clear V2
    have I3 := V.2.2.2.1 (p.1 (15 + d)) cb.1 cb.2
    have ef : p.1 (39 + p.1 (15 + d)) = gi h 25 (p.1 (15 + d)) := A.1.fish cb
    have sn := smNext_R ⟨K.2.2.1, K.2.2.2⟩
    have s1 := K.2.2.1
    have s2 := K.2.2.2
    have e15 := smF_15 (r := p.1) (d := d) d8 cb
    have OF : Out p.1 (smF p.1 d) := Out.fish d8 cb
    rw [← ef]
    refine ⟨cb, ?_⟩
    refine c_X1_catchOf o16 A hd (by omega) (by omega) (fun h2 J => ⟨_, rfl, ?_⟩)
    refine c_X0_take o16 (A.jx o16 J) hd z (smCat_R V hd z) (fun h3 B F => ⟨rfl, ?_⟩)
    have tm : Int.tmod (p.2.1 * 1103 + 12345) 1000003 = smNext p.2.1 := rfl
    rw [tm]
    have tm10 : 0 ≤ Int.tmod (smNext p.2.1) 10 ∧ Int.tmod (smNext p.2.1) 10 < 10 := by
      rw [Int.tmod_eq_emod_of_nonneg sn.1]
      omega
    have F2 : FrX eS h h3 := (J.fr.mono (fun q k w => by unfold eS; omega)).trans (F.mono EI_S)
    refine ⟨by omega, by omega, by omega, by omega, ?_⟩
    refine c_X1_slamOf o16 B (r := smF p.1 d) (by rw [OF 1 (by omega)]; exact hd) cb (fun h4 J4 => ⟨_, rfl, fun w => ⟨by omega, ?_⟩, fun w => ⟨d8, fun h5 e5 => ⟨by omega, ?_⟩⟩⟩)
    · have e : smS d p = (smF p.1 d, smNext p.2.1, p.2.2) := by
        unfold smS
        rw [if_neg z, if_pos w]
      rw [e] at k K'
      exact lp_smX72 n (d + 1) (smF p.1 d, smNext p.2.1, p.2.2) h4 K' (B.jx o16 J4) (by omega) (by omega) (fun h' A' F' => k h' A' ((F2.trans (J4.fr.mono (fun q k w => by unfold eS; omega))).trans F'))
    · have e : smS d p = (loseR (smF p.1 d) d, smNext p.2.1, p.2.2 + 1) := by
        unfold smS
        rw [if_neg z, if_neg w]
      rw [e] at k K'
      have F5 : FrX eS h4 h5 := by
        rw [e5]
        exact FrX.rfl'.wi (by unfold eS; omega)
      have B4 := B.jx o16 J4
      have l15 := la_15 d8
      have C : RA h5 16 (loseR (smF p.1 d) d) := by
        refine B4.fr F5 (fun q k z => by unfold eS at z; omega) (Out.lose d8) ?_ K'.1
        unfold loseR
        refine RIs.setM ?_ (by unfold okP; omega)
        rw [e5]
        exact B4.1.set (by unfold okP; omega) (by rw [l15.1]) l15.2.symm
      exact lp_smX72 n (d + 1) (loseR (smF p.1 d) d, smNext p.2.1, p.2.2 + 1) h5 K' C (by omega) (by omega) (fun h' A' F' => k h' A' (((F2.trans (J4.fr.mono (fun q k w => by unfold eS; omega))).trans F5).trans F'))
theorem lost_X {h : AH} {o : Nat} {r : Int → Int} (A : RA h o r) : sumZ (fun i => b2i (gi h (o + 6) i = -1 ∧ gi h (o + 7) i = -1)) (gi h o 2).toNat 0 = lostR r := by
  have I1 := A.2.2.1
  have ed : r 1 = gi h o 2 := A.1.doors
  unfold lostR
  rw [← ed]
  refine sumZ_congr _ _ (fun j j0 j1 => ?_)
  rw [A.1.hangs (d := j) (by omega), A.1.cell (d := j) (by omega)]
theorem lp_smX50 {dd b : Nat} {Q : Option AV → AH → Prop} {r0 : Int → Int} {N : Int} (hN : N ≤ 60) : ∀ (n : Nat) (t : Int) (p : S3) (h : AH), SmK r0 p → RA h 16 p.1 → RA h 1 r0 → 0 ≤ t → t + n = N → (∀ h', RA h' 16 (smY n p).1 → FrX eS h h' → Q (some (vI (lostR (smY n p).1 - lostR r0))) (si h' 0 14 0)) → Lp_X7_summers_50 dd b Q N p.2.1 t h
  | n, t, p, h, K, A, A1, t0, tn, k => by
    have V1 := K.1.1
    have U1 := A1.2.2.1
    have e1 : p.1 1 = r0 1 := K.2.1 1 (by omega)
    have ed : p.1 1 = gi h 16 2 := A.1.doors
    have ed1 : r0 1 = gi h 1 2 := A1.1.doors
    have e5 : p.1 5 = gi h 16 14 := A.1.day
    have la := lost_X A
    have lb := lost_X A1
    have ra := lostR_R (r := p.1) (by omega)
    have rb := lostR_R (r := r0) (by omega)
    have fin : smY n p = p → ((0 ≤ gi h 16 2 ∧ gi h 16 2 ≤ 8) ∧ (0 ≤ gi h 1 2 ∧ gi h 1 2 ≤ 8) ∧ R32 ((sumZ (fun i => b2i (gi h 22 i = -1 ∧ gi h 23 i = -1)) (gi h 16 2).toNat 0) - (sumZ (fun i => b2i (gi h 7 i = -1 ∧ gi h 8 i = -1)) (gi h 1 2).toNat 0)) ∧ ∀ h1, h1 = si h 0 14 0 → Q (some (vI ((sumZ (fun i => b2i (gi h 22 i = -1 ∧ gi h 23 i = -1)) (gi h 16 2).toNat 0) - (sumZ (fun i => b2i (gi h 7 i = -1 ∧ gi h 8 i = -1)) (gi h 1 2).toNat 0)))) h1) := fun e => by
      rw [e] at k
      have la' : sumZ (fun i => b2i (gi h 22 i = -1 ∧ gi h 23 i = -1)) (gi h 16 2).toNat 0 = lostR p.1 := la
      have lb' : sumZ (fun i => b2i (gi h 7 i = -1 ∧ gi h 8 i = -1)) (gi h 1 2).toNat 0 = lostR r0 := lb
      rw [la', lb']
      refine ⟨by omega, by omega, by omega, fun h1 w1 => ?_⟩
      subst w1
      exact k h A FrX.rfl'
    match n, tn, k, fin with
    | 0, tn, k, fin => exact l_X7_summers_50 ⟨fun _ => fin rfl, fun z => by omega⟩
    | n + 1, tn, k, fin =>
      refine l_X7_summers_50 ⟨fun z => by omega, fun _ => ⟨fun z => fin (by unfold smY; rw [if_pos (by omega)]), fun z => ?_⟩⟩
      unfold smY at k
      rw [if_neg (by omega)] at k
      obtain ⟨a1, a2, a3, -, -⟩ := smD_K (p.1 1).toNat 0 p K (by decide) (by omega)
      refine lp_smX72 (p.1 1).toNat 0 p h K A (by decide) (by omega) (fun h1 A' F => ?_)
      refine c_X0_flow (by decide) A' (by omega) (fun h2 A2 F2 => ⟨_, rfl, by omega, ?_⟩)
      have FF : FrX eS h h2 := F.trans (F2.mono EI_S)
      have B1 : RA h2 1 r0 := A1.to (fun c hc k => FF.1 _ _ (by unfold eS; omega)) (FF.dyn (fun q k z => by unfold eS at z; omega)) (fun i => by rw [FF.2.1])
      exact lp_smX50 hN n (t + 1) (smT (smD (p.1 1).toNat 0 p)) h2 (smT_K a1 (by omega)).1 A2 B1 (by omega) (by omega) (fun h' A'' F'' => k h' A'' (FF.trans F''))
