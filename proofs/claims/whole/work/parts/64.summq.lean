/-! the reference's summers -/
theorem c_X8_draw {dd b : Nat} {Q : Option AV → AH → Prop} {h : AH} (hs : 0 ≤ gl h 0 54 ∧ gl h 0 54 ≤ 1000003) (k : Q (some (vI (Int.tmod (smNext (gl h 0 54)) 10))) (sl h 0 54 (smNext (gl h 0 54)))) : WM GM dd b mX8_draw [vR (some 0), vI 10] h Q := by
  have sn := smNext_R hs
  have tm : Int.tmod (gl h 0 54 * 1103 + 12345) 1000003 = smNext (gl h 0 54) := rfl
  have tm10 : 0 ≤ Int.tmod (smNext (gl h 0 54)) 10 ∧ Int.tmod (smNext (gl h 0 54)) 10 < 10 := by
    rw [Int.tmod_eq_emod_of_nonneg sn.1]
    omega
  refine w_X8_draw ?_
  rw [tm]
  refine ⟨by omega, by omega, by omega, fun h1 e1 => ⟨by decide, by omega, ?_⟩⟩
  subst e1
  rw [zl2i_e (by omega)]
  exact k
def eSM (q : Nat) (k : Int) : Prop := q = 2 ∨ (q = 0 ∧ (k = 34 ∨ k = 38))
/-- what the summers may change in the reference while they last -/
def FrS (a b : AH) : Prop := (∀ q k, ¬ eSM q k → gi b q k = gi a q k) ∧ ∀ q k, q ≠ 18 → q ≠ 20 → q ≠ 0 → gl b q k = gl a q k
theorem FrS.rfl' {a : AH} : FrS a a := ⟨fun _ _ _ => rfl, fun _ _ _ _ _ => rfl⟩
theorem FrS.trans {a b c : AH} (x : FrS a b) (y : FrS b c) : FrS a c := ⟨fun q k z => (y.1 q k z).trans (x.1 q k z), fun q k z w u => (y.2 q k z w u).trans (x.2 q k z w u)⟩
theorem TS.s {a b : AH} (x : TS a b) : FrS a b := ⟨x.1, fun q k z w u => x.2 q k z w (Or.inl u)⟩
theorem FrS.lk {a b : AH} {p : S3} (L : LawK a) (F : FrS a b) (K : SmK (gi a 2) p) (e : gi b 2 = p.1) : LawK b :=
  L.to (F.1 _ _ (by unfold eSM; omega)) (by rw [e]; exact K.1) (by rw [e]; exact K.2.1 4 (by omega)) (fun j hj => by rw [e]; exact K.2.1 j (by omega))
theorem smK_v {r0 : Int → Int} {p : S3} (K : SmK r0 p) (hr : 0 ≤ r0 1 ∧ r0 1 ≤ 8) (I : lostR p.1 - p.2.2 = lostR r0) : -8 ≤ p.2.2 ∧ p.2.2 ≤ 8 := by
  have e1 : p.1 1 = r0 1 := K.2.1 1 (by omega)
  have a := lostR_R (r := p.1) (by omega)
  have b := lostR_R hr
  omega
theorem lp_smM73 {dd b : Nat} {Q : Option AV → AH → Prop} {a : AH} {t N : Int} (L : LawK a) : ∀ (n : Nat) (d : Int) (p : S3) (h : AH), SmK (gi a 2) p → lostR p.1 - p.2.2 = lostR (gi a 2) → gi h 2 = p.1 → gl h 0 54 = p.2.1 → FrS a h → 0 ≤ d → d + n = gi a 2 1 → (∀ h', gi h' 2 = (smD n d p).1 → gl h' 0 54 = (smD n d p).2.1 → FrS a h' → WM GM (dd + 6) 0 mX8_tideIt [vR (some 0)] h' (fun r h1 => ∃ u2, r = some (vI u2) ∧ R32 ((smD n d p).2.2 + u2) ∧ R32 (t + 1) ∧ Lp_X8_summers_52 dd b Q N ((smD n d p).2.2 + u2) (t + 1) h1)) → Lp_X8_summers_73 dd b Q N p.2.2 t d h
  | 0, d, p, h, K, I, er, es, F, h0, h1, k => by
    have e1 : p.1 1 = gi a 2 1 := K.2.1 1 (by omega)
    have e2 : gi h 2 1 = p.1 1 := by rw [er]
    exact l_X8_summers_73 ⟨fun _ => k h er es F, fun z => by omega⟩
  | n + 1, d, p, h, K, I, er, es, F, h0, h1, k => by
    have V := K.1
    have V1 := V.1
    have e1 : p.1 1 = gi a 2 1 := K.2.1 1 (by omega)
    obtain ⟨K', I', -, -, -⟩ := smS_K K (d := d) (by omega)
    have hd : 0 ≤ d ∧ d < p.1 1 := by omega
    have d8 : 0 ≤ d ∧ d < 8 := by omega
    have vb := smK_v K (by omega) I
    unfold smD at k
    refine l_X8_summers_73 ?_
    rw [er]
    refine ⟨fun z => by omega, fun _ => ⟨d8, fun z => ?_, fun z => ⟨by omega, ?_⟩⟩⟩
    · have V2 := V.2.1 d hd.1 hd.2
      have cb : 0 ≤ p.1 (15 + d) ∧ p.1 (15 + d) < 25 := by omega
      clear V2
      have s1 := K.2.2.1
      have s2 := K.2.2.2
      have sn := smNext_R ⟨s1, s2⟩
      have e15 := smF_15 (r := p.1) (d := d) d8 cb
      have OF : Out p.1 (smF p.1 d) := Out.fish d8 cb
      have Lh : LawK h := F.lk L K er
      have KF : SmK (gi a 2) (smF p.1 d, smNext p.2.1, p.2.2) := ⟨V.fishes hd z (smCat_R V hd z), K.2.1.trans OF, sn.1, by show smNext p.2.1 ≤ 1000003; omega⟩
      refine c_X8_fishIt Lh (by rw [er]; exact hd) (by rw [er]; exact z) ?_
      rw [er]
      intro h2 w2 T2
      refine ⟨_, rfl, ?_⟩
      have es2 : gl h2 0 54 = p.2.1 := (T2.2 0 54 (by decide) (by decide) (Or.inr rfl)).trans es
      refine c_X8_draw (by rw [es2]; exact ⟨s1, s2⟩) ⟨_, rfl, ?_⟩
      rw [es2]
      have er3 : gi (sl h2 0 54 (smNext p.2.1)) 2 = smF p.1 d := w2
      have F3 : FrS a (sl h2 0 54 (smNext p.2.1)) := (F.trans T2.s).trans ⟨fun _ _ _ => rfl, fun q k z w u => by rw [gl_sl, if_neg (by omega)]⟩
      have L3 : LawK (sl h2 0 54 (smNext p.2.1)) := F3.lk L KF er3
      rw [er3, e15]
      refine ⟨by omega, by omega, ?_⟩
      refine c_X8_slams L3 (by rw [er3, OF 1 (by omega)]; exact hd) cb ?_
      rw [er3]
      intro h4 T4
      have er4 : gi h4 2 = smF p.1 d := T4.row.trans er3
      have es4 : gl h4 0 54 = smNext p.2.1 := (T4.2 0 54 (by decide) (by decide) (Or.inr rfl)).trans gl_eq
      have F4 : FrS a h4 := F3.trans T4.ts.s
      refine ⟨_, rfl, fun w => ⟨by omega, ?_⟩, fun w => ⟨d8, fun h5 e5 => ⟨by omega, by omega, ?_⟩⟩⟩
      · have e : smS d p = (smF p.1 d, smNext p.2.1, p.2.2) := by
          unfold smS
          rw [if_neg z, if_pos w]
        rw [e] at k K' I'
        exact lp_smM73 L n (d + 1) (smF p.1 d, smNext p.2.1, p.2.2) h4 K' (I'.trans I) er4 es4 F4 (by omega) (by omega) k
      · have e : smS d p = (loseR (smF p.1 d) d, smNext p.2.1, p.2.2 + 1) := by
          unfold smS
          rw [if_neg z, if_neg w]
        rw [e] at k K' I'
        have er5 : gi h5 2 = loseR (smF p.1 d) d := by
          rw [e5, gi_self, gi_self, er4]
          rfl
        have F5 : FrS a h5 := by
          rw [e5]
          exact F4.trans (TS.rfl'.w2.w2).s
        exact lp_smM73 L n (d + 1) (loseR (smF p.1 d) d, smNext p.2.1, p.2.2 + 1) h5 K' (I'.trans I) er5 (by rw [e5]; exact es4) F5 (by omega) (by omega) k
    · have z' : p.1 (15 + d) = -1 := by omega
      have e : smS d p = p := by
        unfold smS
        rw [if_pos z']
      rw [e] at k
      exact lp_smM73 L n (d + 1) p h K I er es F (by omega) (by omega) k
theorem lp_smM52 {dd b : Nat} {Q : Option AV → AH → Prop} {a : AH} {N : Int} (hN : N ≤ 60) (L : LawK a) : ∀ (n : Nat) (t : Int) (p : S3) (h : AH), SmK (gi a 2) p → lostR p.1 - p.2.2 = lostR (gi a 2) → gi h 2 = p.1 → gl h 0 54 = p.2.1 → FrS a h → 0 ≤ t → t + n = N → (∀ h', gi h' 2 = (smY n p).1 → FrS a h' → Lp_X8_summers_166 dd b Q (smY n p).2.2 0 (si h' 0 57 (gi h' 2 1))) → Lp_X8_summers_52 dd b Q N p.2.2 t h
  | 0, t, p, h, K, I, er, es, F, t0, tn, k => l_X8_summers_52 ⟨fun _ h1 e1 => by subst e1; exact k h er F, fun z => by omega⟩
  | n + 1, t, p, h, K, I, er, es, F, t0, tn, k => by
    have V1 := K.1.1
    have e1 : p.1 1 = gi a 2 1 := K.2.1 1 (by omega)
    unfold smY at k
    have e5 : gi h 2 5 = p.1 5 := by rw [er]
    refine l_X8_summers_52 ⟨fun z => by omega, fun _ => ⟨fun z h2 e2 => ?_, fun z => ?_⟩⟩
    · subst e2
      rw [if_pos (by omega)] at k
      exact k h er F
    · rw [if_neg (by omega)] at k
      obtain ⟨a1, a2, a3, -, -⟩ := smD_K (p.1 1).toNat 0 p K (by decide) (by omega)
      have W1 := a1.1.1
      have f1 : (smD (p.1 1).toNat 0 p).1 1 = gi a 2 1 := a1.2.1 1 (by omega)
      have vb := smK_v a1 (by omega) (a2.trans I)
      refine lp_smM73 L (p.1 1).toNat 0 p h K I er es F (by decide) (by omega) (fun h1 er1 es1 F1 => ?_)
      have tn8 := tdN_R ((smD (p.1 1).toNat 0 p).1 1).toNat 0 (smD (p.1 1).toNat 0 p).1
      refine c_X8_tideIt (by rw [er1]; exact a1.1) ?_
      rw [er1]
      intro h2 er2 T2
      obtain ⟨b1, b2, b3, b4⟩ := smT_K a1 (by omega)
      refine ⟨_, rfl, by unfold tideN; omega, by omega, ?_⟩
      exact lp_smM52 hN L n (t + 1) (smT (smD (p.1 1).toNat 0 p)) h2 b1 (b2.trans (a2.trans I)) er2 ((T2.2 0 54 (by decide) (by decide) (Or.inr rfl)).trans es1) (F1.trans T2.s) (by omega) (by omega) k
/-- the reference's copies for drawn -/
def eDr (q : Nat) (_ : Int) : Prop := q = 30 ∨ q = 31
theorem lp_smM166 {dd b : Nat} {Q : Option AV → AH → Prop} {v : Int} {a : AH} (h8 : 0 ≤ gi a 0 57 ∧ gi a 0 57 ≤ 8) : ∀ (n : Nat) (d : Int) (h : AH), 0 ≤ d → d + n = gi a 0 57 → FrM eDr a h → (∀ j, 0 ≤ j → j < d → gi h 30 (2 * j) = gi a 2 (15 + j) ∧ gi h 30 (2 * j + 1) = gi a 2 (23 + j)) → (∀ h', FrM eDr a h' → (∀ j, 0 ≤ j → j < gi a 0 57 → gi h' 30 (2 * j) = gi a 2 (15 + j) ∧ gi h' 30 (2 * j + 1) = gi a 2 (23 + j)) → Lp_X8_summers_224 dd b Q v 0 h') → Lp_X8_summers_166 dd b Q v d h
  | 0, d, h, h0, e, F, H, k => by
    have e57 : gi h 0 57 = gi a 0 57 := F.1 _ _ (by unfold eDr; omega)
    exact l_X8_summers_166 ⟨fun _ => k h F (fun j j0 j1 => H j j0 (by omega)), fun z => by omega⟩
  | n + 1, d, h, h0, e, F, H, k => by
    have e57 : gi h 0 57 = gi a 0 57 := F.1 _ _ (by unfold eDr; omega)
    have r2 : ∀ k, gi h 2 k = gi a 2 k := fun k => F.1 _ _ (by unfold eDr; omega)
    refine l_X8_summers_166 ⟨fun z => by omega, fun _ => ⟨by omega, by omega, by omega, by omega, fun h1 e1 => ⟨by omega, by omega, by omega, by omega, by omega, fun h2 e2 => ⟨by omega, ?_⟩⟩⟩⟩
    refine lp_smM166 h8 n (d + 1) h2 (by omega) (by omega) ?_ (fun j j0 j1 => ?_) k
    · rw [e2, e1]
      exact (F.wi (Or.inl rfl)).wi (Or.inl rfl)
    · rw [e2, e1]
      by_cases c : j = d
      · subst c
        rw [gi_ne (by omega), gi_eq, gi_eq, r2, r2]
        exact ⟨rfl, rfl⟩
      · rw [gi_ne (by omega), gi_ne (by omega), gi_ne (by omega), gi_ne (by omega)]
        exact H j j0 (by omega)
theorem lp_smM224 {dd b : Nat} {Q : Option AV → AH → Prop} {v : Int} {a : AH} : ∀ (n : Nat) (c : Int) (h : AH), 0 ≤ c → c + n = 25 → FrM (fun q _ => q = 31) a h → (∀ j, 0 ≤ j → j < c → gi h 31 j = gi a 2 (39 + j)) → (∀ h', FrM (fun q _ => q = 31) a h' → (∀ j, 0 ≤ j → j < 25 → gi h' 31 j = gi a 2 (39 + j)) → WM GM (dd + 6) 0 mX8_putBack [vR (some 0), vI 16] h' (fun r h1 => r = none ∧ (-7 < v) ∧ (∀ i : Int, 0 ≤ i → i < 7 → 0 ≤ gi h1 1 i ∧ gi h1 1 i ≤ 1000000) ∧ ∀ h2, h2 = mTell h1 v → Q (some (vI v)) h2)) → Lp_X8_summers_224 dd b Q v c h
  | 0, c, h, h0, e, F, H, k => l_X8_summers_224 ⟨fun _ => k h F (fun j j0 j1 => H j j0 (by omega)), fun z => by omega⟩
  | n + 1, c, h, h0, e, F, H, k => by
    have r2 : ∀ k, gi h 2 k = gi a 2 k := fun k => F.1 _ _ (by omega)
    refine l_X8_summers_224 ⟨fun z => by omega, fun _ => ⟨by omega, by omega, by omega, fun h1 e1 => ⟨by omega, ?_⟩⟩⟩
    refine lp_smM224 n (c + 1) h1 (by omega) (by omega) ?_ (fun j j0 j1 => ?_) k
    · rw [e1]
      exact F.wi rfl
    · rw [e1]
      by_cases z : j = c
      · subst z
        rw [gi_eq, r2]
      · rw [gi_ne (by omega)]
        exact H j j0 (by omega)
theorem smY_v {r0 : Int → Int} : ∀ (n : Nat) (p : S3), SmK r0 p → p.2.2 ≤ (smY n p).2.2
  | 0, p, K => Int.le_refl _
  | n + 1, p, K => by
    have V1 := K.1.1
    have e1 : p.1 1 = r0 1 := K.2.1 1 (by omega)
    unfold smY
    by_cases c : 999 ≤ p.1 5
    · rw [if_pos c]
      exact Int.le_refl _
    rw [if_neg c]
    obtain ⟨a1, -, a3, a4, -⟩ := smD_K (p.1 1).toNat 0 p K (by decide) (by omega)
    obtain ⟨b1, -, b4, -⟩ := smT_K a1 (by omega)
    have := smY_v n _ b1
    omega
theorem RU.to2 {hX hX' hM hM' : AH} (H : RU hX hM) (x1 : gi hX' 41 1 = gi hX 41 1) (x2 : ∀ k, gi hX' 42 k = gi hX 42 k) (m1 : gi hM' 0 8 = gi hM 0 8) (m5 : ∀ k, k < 944 → gi hM' 5 k = gi hM 5 k) (m6 : ∀ k, gi hM' 6 k = gi hM 6 k) (r : gi hM' 2 = gi hM 2) : RU hX' hM' := by
  obtain ⟨h1, h2, h3, h4⟩ := H
  refine ⟨by rw [x1, m1, h1], by rw [m1]; exact h2, by rw [m1]; exact h3, fun j j0 j1 => ?_⟩
  rw [m1] at j1
  obtain ⟨q1, q2, q3, q4, q5, q6⟩ := h4 j j0 j1
  rw [x2, x2, m6, m5 _ (by omega), m5 _ (by omega), r]
  refine ⟨q1, q2, q3, fun i i0 i1 => ?_, fun i i0 i1 => ?_, ?_⟩
  · rw [x2, m5 _ (by omega)]
    exact q4 i i0 i1
  · rw [x2, m5 _ (by omega)]
    exact q5 i i0 i1
  · rw [backR_congr (v := fun i => gi hM 5 (59 * j + i)) (fun i i0 i1 => m5 _ (by omega))]
    exact q6
theorem q_summers {n dx dm : Nat} {hX hM : AH} {Q : Option AV → AH → Prop} {x1 x2 : Int} (R : RR n hX hM) (hn : n < 512) (hQ : ∀ rx hX', WM GM (dm + 7) 0 mX8_summers [vR (some 0), vI x1, vI x2] hM (fun rm hM' => RQ n rx rm hX' hM') → Q rx hX') : WM GX (dx + 4) 0 mX7_summers [vR (some 0), vI x1, vI x2] hX Q := by
  have S := R.s.same SameX.rfl' (km0 (h := hM)).1
  have bad : ¬ (0 ≤ x1 ∧ x1 ≤ 1000000 ∧ 1 ≤ x2 ∧ x2 ≤ 60) → (∀ i : Int, 0 ≤ i → i < 5 → 0 ≤ gi hX 14 i ∧ gi hX 14 i ≤ 1000000) ∧ ∀ h1, h1 = xRef hX (-1) → Q (some (vI (-1))) h1 := fun c => ⟨S.b5, fun h1 e1 => by
    subst e1
    refine hQ _ _ (w_X8_summers fun _ _ h1 e1 => ⟨fun z => ⟨fun w => absurd (by omega) c, fun _ => ⟨by decide, ?_, fun h2 e2 => ?_⟩⟩, fun _ => ⟨by decide, ?_, fun h2 e2 => ?_⟩⟩)
    · subst e1
      exact S.b7
    · subst e2 e1
      exact RQ.mk rfl (S.ref hn (by omega))
    · subst e1
      exact S.b7
    · subst e2 e1
      exact RQ.mk rfl (S.ref hn (by omega))⟩
  refine w_X7_summers fun _ _ => ⟨fun z => bad (by omega), fun z1 => ⟨fun z => bad (by omega), fun z2 => ⟨fun z => bad (by omega), fun z3 => ⟨fun z4 => ?_, fun z => bad (by omega)⟩⟩⟩⟩
  have V := R.1.2.2
  have V1 := V.1
  have K0 : SmK (gi hM 2) (gi hM 2, x1, 0) := ⟨V, Out.rfl', by show 0 ≤ x1; omega, by show x1 ≤ 1000003; omega⟩
  have I0 : lostR (gi hM 2) - 0 = lostR (gi hM 2) := by omega
  obtain ⟨N, eN⟩ : ∃ N : Nat, x2 = N := ⟨x2.toNat, by omega⟩
  obtain ⟨KY, IY⟩ := smY_K N _ K0
  have vY : lostR (smY N (gi hM 2, x1, 0)).1 - lostR (gi hM 2) = (smY N (gi hM 2, x1, 0)).2.2 := by
    have : lostR (smY N (gi hM 2, x1, 0)).1 - (smY N (gi hM 2, x1, 0)).2.2 = lostR (gi hM 2) - 0 := IY
    omega
  refine c_X0_copyFrom (by decide) (by decide) (by decide) R.1 (fun h4 B F => ⟨rfl, fun h5 e5 => ?_⟩)
  have F5 : ∀ q k, ¬ (16 ≤ q ∧ q ≤ 28) → ¬ (q = 0 ∧ k = 4) → gi h5 q k = gi hX q k := fun q k z w => by
    rw [e5, gi_ne (by omega)]
    exact F.1 q k (by omega)
  have d5 : DynX hX h5 := by
    rw [e5]
    exact (F.dyn (by decide)).si (by decide)
  have rf5 : ∀ q k, q ≠ 28 → rf h5 q k = rf hX q k := fun q k z => by
    rw [e5]
    exact F.2.1 q k z
  have A1 : RA h5 1 (gi hM 2) := R.1.to (fun c hc k => F5 _ _ (by omega) (by omega)) d5 (fun i => rf5 _ _ (by decide))
  have A16 : RA h5 16 (gi hM 2) := by
    rw [e5]
    exact B.to (fun c hc k => gi_ne (by omega)) (DynX.rfl'.si (by decide)) (fun _ => rfl)
  refine lp_smX50 z4 N 0 (gi hM 2, x1, 0) h5 K0 A16 A1 (by decide) (by omega) (fun h6 A6 F6 => ?_)
  rw [vY]
  have F6' : ∀ q k, ¬ (16 ≤ q ∧ q ≤ 28) → ¬ (q = 0 ∧ k = 4) → q ≠ 39 → q ≠ 40 → gi h6 q k = gi hX q k := fun q k z w a b => by
    rw [F6.1 q k (by unfold eS; omega)]
    exact F5 q k z w
  have d6 : DynX hX h6 := d5.trans (F6.dyn (fun q k z => by unfold eS at z; omega))
  have rf6 : ∀ q k, q ≠ 28 → rf h6 q k = rf hX q k := fun q k z => by
    rw [F6.2.1]
    exact rf5 q k z
  refine hQ _ _ (w_X8_summers fun _ _ g1 w1 => ⟨fun _ => ⟨fun _ => c_X8_keepAll (by decide) ⟨rfl, fun g2 w2 => ?_⟩, fun w => absurd (by omega) w⟩, fun w => absurd (by omega) w⟩)
  have e2 : gi g2 2 = gi hM 2 := by
    funext k
    rw [w2]
    show gi (cpy g1 2 5 5 (59 * 16) 59) 2 k = _
    rw [cpy_out (by omega), w1, gi_ne (by omega)]
  have e54 : gl g2 0 54 = x1 := by rw [w2, gl_eq]
  have L2 : LawK g2 := by
    have L := R.s.lawK
    refine L.to ?_ (by rw [e2]; exact V) (by rw [e2]) (fun j _ => by rw [e2])
    rw [w2]
    show gi (cpy g1 2 5 5 (59 * 16) 59) 0 20 = _
    rw [cpy_out (by omega), w1, gi_ne (by omega)]
  have G2 : ∀ q k, ¬ (q = 0 ∧ k = 0) → ¬ (q = 5 ∧ 944 ≤ k) → gi g2 q k = gi hM q k := fun q k z w => by
    rw [w2]
    show gi (cpy g1 2 5 5 (59 * 16) 59) q k = _
    rw [cpy_out (by omega), w1, gi_ne (by omega)]
  have P2 : ∀ i, 0 ≤ i → i < 59 → gi g2 5 (944 + i) = gi hM 2 (5 + i) := fun i i0 i1 => by
    rw [w2]
    show gi (cpy g1 2 5 5 (59 * 16) 59) 5 (944 + i) = _
    rw [cpy_in (by omega), w1, gi_ne (by omega)]
    congr 1
    omega
  have l2 : ∀ q k, q ≠ 18 → q ≠ 20 → q ≠ 0 → gl g2 q k = gl hM q k := fun q k z w u => by
    rw [w2, gl_sl, if_neg (by omega), w1]
    rfl
  refine lp_smM52 z4 L2 N 0 (gi hM 2, x1, 0) g2 (by rw [e2]; exact K0) (by rw [e2]; exact I0) e2 e54 FrS.rfl' (by decide) (by omega) (fun g3 e3 F3 => ?_)
  have er1 : (smY N (gi hM 2, x1, 0)).1 1 = gi hM 2 1 := KY.2.1 1 (by omega)
  have e31 : gi g3 2 1 = gi hM 2 1 := by rw [e3, er1]
  generalize ea : si g3 0 57 (gi g3 2 1) = a
  have a57 : gi a 0 57 = gi hM 2 1 := by rw [← ea, gi_eq, e31]
  refine lp_smM166 (a := a) (by omega) (gi hM 2 1).toNat 0 a (by decide) (by omega) FrM.rfl' (fun j j0 j1 => by omega) (fun g4 F4 D4 => ?_)
  refine lp_smM224 (a := g4) 25 0 g4 (by decide) (by decide) FrM.rfl' (fun j j0 j1 => by omega) (fun g5 F5m D5 => ?_)
  have Ga : ∀ q k, ¬ (q = 0 ∧ k = 57) → gi a q k = gi g3 q k := fun q k z => by rw [← ea, gi_ne (by omega)]
  have G5 : ∀ q k, q ≠ 2 → q ≠ 30 → q ≠ 31 → ¬ (q = 0 ∧ (k = 0 ∨ k = 34 ∨ k = 38 ∨ k = 57)) → ¬ (q = 5 ∧ 944 ≤ k) → gi g5 q k = gi hM q k := fun q k z1 z2 z3 z4 z5 => by
    rw [F5m.1 q k (by omega), F4.1 q k (by unfold eDr; omega), Ga q k (by omega), F3.1 q k (by unfold eSM; omega), G2 q k (by omega) z5]
  have r5 : gi g5 2 = (smY N (gi hM 2, x1, 0)).1 := by
    funext k
    rw [F5m.1 2 k (by omega), F4.1 2 k (by unfold eDr; omega), Ga 2 k (by omega), e3]
  have P5 : ∀ i, 0 ≤ i → i < 59 → gi g5 5 (944 + i) = gi hM 2 (5 + i) := fun i i0 i1 => by
    rw [F5m.1 _ _ (by omega), F4.1 _ _ (by unfold eDr; omega), Ga _ _ (by omega), F3.1 _ _ (by unfold eSM; omega), P2 i i0 i1]
  have l5 : ∀ q k, q ≠ 18 → q ≠ 20 → q ≠ 0 → gl g5 q k = gl hM q k := fun q k z w u => by
    rw [F5m.2 q k z w (Or.inl u), F4.2 q k z w (Or.inl u), ← ea]
    show gl g3 q k = _
    rw [F3.2 q k z w u, l2 q k z w u]
  refine c_X8_putBack (by decide) ⟨rfl, ?_⟩
  generalize e6 : cpy g5 5 (59 * 16) 2 5 59 = g6
  have r6 : gi g6 2 = gi hM 2 := by
    have b1 := backR_cpy (h := g5) (m := 59 * 16)
    rw [e6] at b1
    rw [b1, r5, backR_out KY.2.1, backR_congr (u := fun i => gi g5 5 (59 * 16 + i)) (v := fun i => gi hM 2 (5 + i)) (fun i i0 i1 => P5 i i0 i1)]
    exact backR_self
  have G6 : ∀ q k, q ≠ 2 → gi g6 q k = gi g5 q k := fun q k z => by rw [← e6, cpy_out (by omega)]
  have G6' : ∀ q k, q ≠ 2 → q ≠ 30 → q ≠ 31 → ¬ (q = 0 ∧ (k = 0 ∨ k = 34 ∨ k = 38 ∨ k = 57)) → ¬ (q = 5 ∧ 944 ≤ k) → gi g6 q k = gi hM q k := fun q k z1 z2 z3 z4 z5 => by rw [G6 q k z1, G5 q k z1 z2 z3 z4 z5]
  have l6 : ∀ q k, q ≠ 18 → q ≠ 20 → q ≠ 0 → gl g6 q k = gl hM q k := fun q k z w u => by
    rw [← e6]
    exact l5 q k z w u
  have vv : 0 ≤ (smY N (gi hM 2, x1, 0)).2.2 := by
    have := smY_v N _ K0
    have e : ((gi hM 2, x1, 0) : S3).2.2 = 0 := rfl
    omega
  obtain ⟨s1, s2, s3, s4, s5, s6, s7⟩ := R.s
  have T : RRs n h6 g6 := by
    have c4 : gi h6 0 4 = 1 := by rw [F6.1 0 4 (by unfold eS; omega), e5, gi_eq]
    have c57 : gi g6 0 57 = gi hM 2 1 := by rw [G6 _ _ (by decide), F5m.1 _ _ (by omega), F4.1 _ _ (by unfold eDr; omega), a57]
    have ed6 : (smY N (gi hM 2, x1, 0)).1 1 = gi h6 16 2 := A6.1.doors
    have a2 : ∀ k, gi a 2 k = (smY N (gi hM 2, x1, 0)).1 k := fun k => by rw [Ga _ _ (by omega), e3]
    have g42 : ∀ k, gi g4 2 k = (smY N (gi hM 2, x1, 0)).1 k := fun k => by rw [F4.1 _ _ (by unfold eDr; omega), a2]
    refine ⟨?_, s2.to2 (F6' _ _ (by omega) (by omega) (by omega) (by omega)) (fun k => F6' _ _ (by omega) (by omega) (by omega) (by omega)) (G6' _ _ (by omega) (by omega) (by omega) (by omega) (by omega)) (fun k hk => G6' _ _ (by omega) (by omega) (by omega) (by omega) (by omega)) (fun k => G6' _ _ (by omega) (by omega) (by omega) (by omega) (by omega)) r6,
      s3.to (fun k => F6' _ _ (by omega) (by omega) (by omega) (by omega)) (fun q a b k => F6' _ _ (by omega) (by omega) (by omega) (by omega)) d6 (fun q a b k => rf6 _ _ (by omega)) (fun k => G6' _ _ (by omega) (by omega) (by omega) (by omega) (by omega)) (fun k => G6' _ _ (by omega) (by omega) (by omega) (by omega) (by omega)),
      ⟨Or.inr ⟨c4, by omega, by omega, by omega, fun d d0 d1 => ?_, fun c c0 c1 => ?_⟩, fun k => (F6' 46 _ (by omega) (by omega) (by omega) (by omega)).trans (s4.2 k)⟩,
      s5.to (F6' _ _ (by omega) (by omega) (by omega) (by omega)) (fun k => F6' _ _ (by omega) (by omega) (by omega) (by omega)) (F6' _ _ (by omega) (by omega) (by omega) (by omega)) (F6' _ _ (by omega) (by omega) (by omega) (by omega)) (F6' _ _ (by omega) (by omega) (by omega) (by omega)) (fun k => F6' _ _ (by omega) (by omega) (by omega) (by omega)) (G6' _ _ (by omega) (by omega) (by omega) (by omega) (by omega)) (fun k => G6' _ _ (by omega) (by omega) (by omega) (by omega) (by omega)) (G6' _ _ (by omega) (by omega) (by omega) (by omega) (by omega)) (G6' _ _ (by omega) (by omega) (by omega) (by omega) (by omega)) (G6' _ _ (by omega) (by omega) (by omega) (by omega) (by omega)) (fun k => G6' _ _ (by omega) (by omega) (by omega) (by omega) (by omega)),
      s6.to (G6' _ _ (by omega) (by omega) (by omega) (by omega) (by omega)) (fun q z k => l6 _ _ (by omega) (by omega) (by omega)), Nat.le_trans s7 d6.1⟩
    · rw [r6]
      exact s1.to (fun c hc k => F6' _ _ (by omega) (by omega) (by omega) (by omega)) d6 (fun i => rf6 _ _ (by decide))
    · rw [c57] at d1
      obtain ⟨b1, b2⟩ := D4 d d0 (by omega)
      rw [G6 _ _ (by decide), G6 _ _ (by decide), F5m.1 _ _ (by omega), F5m.1 _ _ (by omega), b1, b2, a2, a2]
      exact ⟨A6.1.cell (by omega), A6.1.caught (by omega)⟩
    · rw [G6 _ _ (by decide), D5 c c0 c1, g42]
      exact A6.1.fish ⟨c0, c1⟩
  refine ⟨by omega, T.b7, fun h2 e2 => ?_⟩
  subst e2
  exact RQ.mk rfl (T.ok hn vv)
