/-! calls that change nothing that the relation looks at -/
def KX (h h' : AH) : Prop := SameX h h' ∧ gi h' 0 14 = gi h 0 14
def KM (h h' : AH) : Prop := SameM h h' ∧ gi h' 0 1 = gi h 0 1
theorem KX.rfl' {h : AH} : KX h h := ⟨SameX.rfl', rfl⟩
theorem KM.rfl' {h : AH} : KM h h := ⟨SameM.rfl', rfl⟩
theorem KX.trans {a b c : AH} (x : KX a b) (y : KX b c) : KX a c := ⟨x.1.trans y.1, y.2.trans x.2⟩
theorem KM.trans {a b c : AH} (x : KM a b) (y : KM b c) : KM a c := ⟨x.1.trans y.1, y.2.trans x.2⟩
theorem KX.si {a b : AH} (x : KX a b) {q : Nat} {k v : Int} (h : q < 76 ∧ ¬ coreX q k ∧ ¬ (q = 0 ∧ k = 14)) : KX a (si b q k v) := ⟨x.1.si ⟨h.1, h.2.1⟩, by rw [gi_si, if_neg (by omega)]; exact x.2⟩
theorem KM.si {a b : AH} (x : KM a b) {q : Nat} {k v : Int} (h : ¬ coreM q k ∧ ¬ (q = 0 ∧ k = 1)) : KM a (si b q k v) := ⟨x.1.si h.1, by rw [gi_si, if_neg (by omega)]; exact x.2⟩
theorem KM.sl {a b : AH} (x : KM a b) {q : Nat} {k v : Int} (h : q ≠ 15 ∧ q ≠ 16 ∧ q ≠ 17 ∧ q ≠ 28) : KM a (sl b q k v) := ⟨x.1.sl h, x.2⟩
theorem km0 {h : AH} : KM h (si h 0 0 0) := KM.rfl'.si (by unfold coreM; omega)
theorem JX.kx {a b : AH} (x : JX a b) : KX a b := ⟨x.same, x.1 0 14 (by decide) (by decide)⟩
theorem TL.km {a b : AH} (x : TL a b) : KM a b := ⟨⟨fun q k z => x.1 q k (by unfold coreM at z; omega), fun q k z => x.2 q k (by omega) (by omega) (by omega)⟩, x.1 0 1 (by omega)⟩
theorem SameM.row {a b : AH} (x : SameM a b) : gi b 2 = gi a 2 := funext fun k => x.1 2 k (by unfold coreM; omega)
theorem KM.row {a b : AH} (x : KM a b) : gi b 2 = gi a 2 := x.1.row
theorem LawK.km {a b : AH} (H : LawK a) (x : KM a b) : LawK b := by
  unfold LawK
  rw [x.row, x.1.1 0 20 (by unfold coreM; omega)]
  exact H
theorem RA.sx {h h' : AH} {o : Nat} {r : Int → Int} (ho : isl o) (A : RA h o r) (x : SameX h h') : RA h' o r := A.to (fun c hc k => x.2.1 _ _ (by unfold coreX; rcases ho with z | z | z | z <;> omega)) x.1 (fun i => x.2.2 _ _ (by rcases ho with z | z | z | z <;> omega))
theorem RA.okC {h : AH} {o : Nat} {r : Int → Int} (A : RA h o r) (h4 : r 4 ≠ -1) : 0 ≤ lawC r (r 4) 1 ∧ lawC r (r 4) 1 ≤ 12 ∧ ∀ e, EB e → ∀ n : Nat, (n : Int) < lawC r (r 4) 1 → OkC (lawC r (r 4)) e n := by
  have I1 := A.2.2.1
  obtain ⟨t, q1, q2⟩ := A.2.1.1 (r 4) (by omega) (by omega)
  obtain ⟨t1, t2, t3, a, s, na, ns, a1, a2, a3, a4, ra, rs, ka, ks, na60, ns8, g0, c0, c12, g2, na5, W, q⟩ := q2
  refine ⟨c0, c12, fun e he n hn => ?_⟩
  obtain ⟨-, k2, -, k4⟩ := q n (by omega) hn
  refine ⟨fun z => ?_, fun z => ?_⟩
  · rcases k4 with ⟨-, k5⟩ | ⟨-, -, -, -, -, k6, k7⟩
    · omega
    · refine ⟨k6, ?_⟩
      rcases k7.1 e he with ⟨v, w, -⟩ | ⟨w, -⟩
      · exact ⟨_, w⟩
      · exact ⟨_, w⟩
  · obtain ⟨-, -, -, -, k6, k7⟩ := k2 z
    refine ⟨k6, ?_⟩
    rcases k7 e he with ⟨v, w, -⟩ | ⟨w, -⟩
    · exact ⟨_, w⟩
    · exact ⟨_, w⟩
theorem RRs.lawK {n : Nat} {hX hM : AH} (S : RRs n hX hM) : LawK hM := ⟨S.2.2.2.2.2.1.1, S.1.2.2, fun z => S.1.okC z⟩
theorem RR.kk {n : Nat} {hX hX' hM hM' : AH} (R : RR n hX hM) (hn : n < 512) (x : KX hX hX') (m : KM hM hM') : RR (n + 1) hX' hM' := R.nxt hn x.1 m.1 x.2 m.2
theorem bq {Q : Option AV → AH → Prop} {h : AH} {p : Prop} [Decidable p] (k : Q (some (vI (b2i p))) h) : (b2i p = 0 → Q (some (vI 0)) h) ∧ (¬ (b2i p = 0) → Q (some (vI 1)) h) :=
  ⟨fun z => qi k z, fun z => qi k (b2i_t (b2i_n0.mp z))⟩
theorem RA.di {h : AH} {o : Nat} {r : Int → Int} (A : RA h o r) (x : Int) : dIn (gi h (o + 6)) x (gi h o 2).toNat 0 = dOf r x := by
  have I1 := A.2.2.1
  have e := A.1.doors
  unfold dOf
  rw [e]
  exact dIn_congr _ _ (fun k k0 k1 => (A.1.hangs (d := k) (by omega)).symm)
/-! of -/
def fOf (r : Int → Int) (d w : Int) : Int := if 0 ≤ d ∧ d < r 1 then (if w = 0 then r (72 + d) else if w = 1 then r (80 + d) else if w = 2 then r (88 + d) else if w = 3 then r (96 + d) else if w = 4 then r (7 + d) else if w = 5 then r (15 + d) else if w = 6 then r (23 + d) else if w = 7 then r (31 + d) else if w = 8 then b2i (r (7 + d) ≠ -1 ∧ rBar r d) else -1) else -1
theorem cX_of {d b : Nat} {Q : Option AV → AH → Prop} {h : AH} {r : Int → Int} {x1 x2 : Int} (A : RA h 1 r) (k : ∀ h', KX h h' → Q (some (vI (fOf r x1 x2))) h') : WM GX (d + 4) b mX7_of [vR (some 0), vI x1, vI x2] h Q := by
  have I1 := A.2.2.1
  have e1 := A.1.doors
  refine w_X7_of ?_
  intro _ _
  refine ⟨fun c => ?_, fun c => qi (k h KX.rfl') (by unfold fOf; rw [if_neg (by omega)])⟩
  have c' : 0 ≤ x1 ∧ x1 < r 1 := by omega
  have b8 : 0 ≤ x1 ∧ x1 < 8 := by omega
  have I2 := A.2.2.2.1 x1 c'.1 c'.2
  have I3 := I2.2.2.2.2.2.2.2.1
  clear I2
  have k0 := k h KX.rfl'
  unfold fOf at k k0
  rw [if_pos c'] at k k0
  refine ⟨fun z => ⟨b8, ?_⟩, fun z => ?_⟩
  · rw [if_pos z, A.1.wide b8] at k0; exact k0
  rw [if_neg z] at k k0
  clear z
  refine ⟨fun z => ⟨b8, ?_⟩, fun z => ?_⟩
  · rw [if_pos z, A.1.wood b8] at k0; exact k0
  rw [if_neg z] at k k0
  clear z
  refine ⟨fun z => ⟨b8, ?_⟩, fun z => ?_⟩
  · rw [if_pos z, A.1.home b8] at k0; exact k0
  rw [if_neg z] at k k0
  clear z
  refine ⟨fun z => ⟨b8, ?_⟩, fun z => ?_⟩
  · rw [if_pos z, A.1.knocks b8] at k0; exact k0
  rw [if_neg z] at k k0
  clear z
  refine ⟨fun z => ⟨b8, ?_⟩, fun z => ?_⟩
  · rw [if_pos z, A.1.hangs b8] at k0; exact k0
  rw [if_neg z] at k k0
  clear z
  refine ⟨fun z => ⟨b8, ?_⟩, fun z => ?_⟩
  · rw [if_pos z, A.1.cell b8] at k0; exact k0
  rw [if_neg z] at k k0
  clear z
  refine ⟨fun z => ⟨b8, ?_⟩, fun z => ?_⟩
  · rw [if_pos z, A.1.caught b8] at k0; exact k0
  rw [if_neg z] at k k0
  clear z
  have eh := A.1.hangs b8
  have ec := A.1.cell b8
  refine ⟨fun z => ⟨b8, fun w => qi k0 ?_, fun w => qi k0 ?_⟩, fun z => ?_⟩
  · rw [if_pos z]
    have w1 : r (7 + x1) = -1 := eh.trans w.1
    have w2 : r (15 + x1) = -1 := ec.trans w.2
    omega
  · rw [if_pos z]
    have w1 : ¬ (r (7 + x1) = -1 ∧ r (15 + x1) = -1) := fun q => w ⟨eh.symm.trans q.1, ec.symm.trans q.2⟩
    omega
  rw [if_neg z] at k k0
  clear z
  refine ⟨fun z => ?_, fun z => ?_⟩
  · rw [if_pos z] at k
    exact c_X1_isBarred (by decide) A c' (fun h' J => ⟨_, rfl, bq (k h' J.kx)⟩)
  · rw [if_neg z] at k0
    exact k0
theorem cM_of {d b : Nat} {Q : Option AV → AH → Prop} {h : AH} {x1 x2 : Int} (L : LawK h) (k : ∀ h', KM h h' → Q (some (vI (fOf (gi h 2) x1 x2))) h') : WM GM (d + 6) b mX8_of [vR (some 0), vI x1, vI x2] h Q := by
  have I1 := L.2.1.1
  refine w_X8_of ?_
  intro _ _ h1 e1
  subst e1
  rw [m2]
  refine ⟨by omega, fun c => ?_, fun c => qi (k _ km0) (by unfold fOf; rw [if_neg (by omega)])⟩
  have k0 := k _ km0
  unfold fOf at k k0
  rw [if_pos c] at k k0
  refine ⟨fun z => ⟨by omega, by omega, ?_⟩, fun z => ?_⟩
  · rw [if_pos z] at k0; exact k0
  rw [if_neg z] at k k0
  clear z
  refine ⟨fun z => ⟨by omega, by omega, ?_⟩, fun z => ?_⟩
  · rw [if_pos z] at k0; exact k0
  rw [if_neg z] at k k0
  clear z
  refine ⟨fun z => ⟨by omega, by omega, ?_⟩, fun z => ?_⟩
  · rw [if_pos z] at k0; exact k0
  rw [if_neg z] at k k0
  clear z
  refine ⟨fun z => ⟨by omega, by omega, ?_⟩, fun z => ?_⟩
  · rw [if_pos z] at k0; exact k0
  rw [if_neg z] at k k0
  clear z
  refine ⟨fun z => ⟨by omega, by omega, ?_⟩, fun z => ?_⟩
  · rw [if_pos z] at k0; exact k0
  rw [if_neg z] at k k0
  clear z
  refine ⟨fun z => ⟨by omega, by omega, ?_⟩, fun z => ?_⟩
  · rw [if_pos z] at k0; exact k0
  rw [if_neg z] at k k0
  clear z
  refine ⟨fun z => ⟨by omega, by omega, ?_⟩, fun z => ?_⟩
  · rw [if_pos z] at k0; exact k0
  rw [if_neg z] at k k0
  clear z
  refine ⟨fun z => ⟨by omega, by omega, ?_⟩, fun z => ?_⟩
  · rw [if_pos z] at k0; exact k0
  rw [if_neg z] at k k0
  clear z
  refine ⟨fun z => ⟨by omega, by omega, fun w => ?_, fun w => ?_⟩, fun z => ?_⟩
  · rw [if_pos z] at k0
    exact qb_f k0 (fun q => q.1 w)
  · rw [if_pos z] at k
    refine c_X8_isBarred (L.km km0) (by rw [m2]; exact c) (fun h' T => ⟨_, rfl, ?_⟩)
    rw [m2f]
    have k1 := k h' (km0.trans T.km)
    refine bq (qi k1 (b2i_c ⟨fun q => q.2, fun q => ⟨w, q⟩⟩))
  · rw [if_neg z] at k0
    exact k0
theorem q_of {n dx dm : Nat} {hX hM : AH} {Q : Option AV → AH → Prop} {x1 x2 : Int} (R : RR n hX hM) (hn : n < 512) (hQ : ∀ rx hX', WM GM (dm + 6) 0 mX8_of [vR (some 0), vI x1, vI x2] hM (fun rm hM' => RQ n rx rm hX' hM') → Q rx hX') : WM GX (dx + 4) 0 mX7_of [vR (some 0), vI x1, vI x2] hX Q :=
  cX_of R.1 (fun _ K => hQ _ _ (cM_of R.s.lawK (fun _ K' => RQ.mk rfl (R.kk hn K K'))))
/-! frame -/
def fFr (r : Int → Int) (x w : Int) : Int := if 0 ≤ x ∧ x < r 0 then (if w = 0 then r (64 + x) else if w = 1 then dOf r x else if 2 ≤ w ∧ w - 2 < r 1 then b2i (rFits r (w - 2) x) else -1) else -1
theorem cX_frame {d b : Nat} {Q : Option AV → AH → Prop} {h : AH} {r : Int → Int} {x1 x2 : Int} (A : RA h 1 r) (k : ∀ h', KX h h' → Q (some (vI (fFr r x1 x2))) h') : WM GX (d + 4) b mX7_frame [vR (some 0), vI x1, vI x2] h Q := by
  have I1 := A.2.2.1
  have e0 := A.1.houses
  have e1 := A.1.doors
  have ed := A.di x1
  refine w_X7_frame ?_
  intro _ _
  refine ⟨fun c => ?_, fun c => qi (k h KX.rfl') (by unfold fFr; rw [if_neg (by omega)])⟩
  have c' : 0 ≤ x1 ∧ x1 < r 0 := by omega
  have b8 : 0 ≤ x1 ∧ x1 < 8 := by omega
  have k0 := k h KX.rfl'
  unfold fFr at k k0
  rw [if_pos c'] at k k0
  refine ⟨fun z => ⟨b8, ?_⟩, fun z => ?_⟩
  · rw [if_pos z, A.1.size b8] at k0; exact k0
  rw [if_neg z] at k k0
  refine ⟨fun z => ⟨by omega, ?_⟩, fun z => ?_⟩
  · rw [if_pos z, ← ed] at k0; exact k0
  rw [if_neg z] at k k0
  refine ⟨fun z => ?_, fun z => ⟨by omega, fun w => ⟨by omega, ?_⟩, fun w => ?_⟩⟩
  · rw [if_neg (by omega)] at k0; exact k0
  · rw [if_pos (by omega)] at k
    exact c_X1_isFitting (by decide) A (by omega) c' (fun h' J => ⟨_, rfl, bq (k h' J.kx)⟩)
  · rw [if_neg (by omega)] at k0; exact k0
theorem cM_frame {d b : Nat} {Q : Option AV → AH → Prop} {h : AH} {x1 x2 : Int} (L : LawK h) (k : ∀ h', KM h h' → Q (some (vI (fFr (gi h 2) x1 x2))) h') : WM GM (d + 6) b mX8_frame [vR (some 0), vI x1, vI x2] h Q := by
  have I1 := L.2.1.1
  refine w_X8_frame ?_
  intro _ _ h1 e1
  subst e1
  rw [m2]
  refine ⟨by omega, fun c => ⟨by omega, fun z => ?_, fun z => qi (k _ km0) (by unfold fFr; rw [if_pos c, if_neg (by omega), if_neg (by omega), if_neg (by omega)])⟩, fun c => qi (k _ km0) (by unfold fFr; rw [if_neg (by omega)])⟩
  have k0 := k _ km0
  unfold fFr at k k0
  rw [if_pos c] at k k0
  refine ⟨fun w => ⟨by omega, by omega, ?_⟩, fun w => ?_⟩
  · rw [if_pos w] at k0; exact k0
  rw [if_neg w] at k k0
  refine ⟨fun w => ⟨by rw [m2f]; exact L.2.1, c.1, ?_⟩, fun w => ⟨by omega, ?_⟩⟩
  · rw [if_pos w] at k0; rw [m2f]; exact k0
  rw [if_neg w, if_pos (by omega)] at k
  refine c_X8_fits (L.km km0) (by rw [m2]; omega) (by rw [m2]; exact c) (fun h' T => ⟨_, rfl, ?_⟩)
  rw [m2f]
  exact bq (k h' (km0.trans T.km))
theorem q_frame {n dx dm : Nat} {hX hM : AH} {Q : Option AV → AH → Prop} {x1 x2 : Int} (R : RR n hX hM) (hn : n < 512) (hQ : ∀ rx hX', WM GM (dm + 6) 0 mX8_frame [vR (some 0), vI x1, vI x2] hM (fun rm hM' => RQ n rx rm hX' hM') → Q rx hX') : WM GX (dx + 4) 0 mX7_frame [vR (some 0), vI x1, vI x2] hX Q :=
  cX_frame R.1 (fun _ K => hQ _ _ (cM_frame R.s.lawK (fun _ K' => RQ.mk rfl (R.kk hn K K'))))
/-! asks -/
def fAsk (r : Int → Int) (x c w : Int) : Int := if (0 ≤ x ∧ x < r 1) ∧ 0 ≤ c ∧ c < 25 then (if w = 0 then rCatch r x c (r (39 + c)) (r (23 + x)) else if w = 1 then rSlam r x c else -1) else -1
theorem cX_asks {d b : Nat} {Q : Option AV → AH → Prop} {h : AH} {r : Int → Int} {x1 x2 x3 : Int} (A : RA h 1 r) (k : ∀ h', KX h h' → Q (some (vI (fAsk r x1 x2 x3))) h') : WM GX (d + 4) b mX7_asks [vR (some 0), vI x1, vI x2, vI x3] h Q := by
  have I1 := A.2.2.1
  have e1 := A.1.doors
  refine w_X7_asks ?_
  intro _ _ _
  have k0 := k h KX.rfl'
  unfold fAsk at k k0
  refine ⟨fun c => ⟨fun c2 => ?_, fun c2 => ?_⟩, fun c => ?_⟩
  · have c' : 0 ≤ x1 ∧ x1 < r 1 := by omega
    have I4 := A.2.2.2.2.2.1 x2 c2.1 c2.2
    have ef := A.1.fish c2
    rw [if_pos ⟨c', c2⟩] at k k0
    refine ⟨fun z => ⟨c2, ?_⟩, fun z => ⟨fun w => ?_, fun w => ?_⟩⟩
    · rw [if_pos z, ef] at k
      refine c_X1_catchOf (by decide) A c' (by omega) ?_ (fun h' J => ⟨_, rfl, k h' J.kx⟩)
      rw [show gi h 10 x2 = r (39 + x2) from ef.symm]
      omega
    · rw [if_neg z, if_pos w] at k
      exact c_X1_slamOf (by decide) A c' c2 (fun h' J => ⟨_, rfl, k h' J.kx⟩)
    · rw [if_neg z, if_neg w] at k0; exact k0
  · rw [if_neg (fun z => c2 z.2)] at k0; exact k0
  · rw [if_neg (by omega)] at k0; exact k0
theorem cM_asks {d b : Nat} {Q : Option AV → AH → Prop} {h : AH} {x1 x2 x3 : Int} (L : LawK h) (k : ∀ h', KM h h' → Q (some (vI (fAsk (gi h 2) x1 x2 x3))) h') : WM GM (d + 6) b mX8_asks [vR (some 0), vI x1, vI x2, vI x3] h Q := by
  have I1 := L.2.1.1
  refine w_X8_asks ?_
  intro _ _ _ h1 e1
  subst e1
  rw [m2]
  have k0 := k _ km0
  unfold fAsk at k k0
  refine ⟨by omega, fun c => ⟨fun c2 => ?_, fun c2 => ?_⟩, fun c => ?_⟩
  · rw [if_pos ⟨c, c2⟩] at k k0
    have I2 := L.2.1.2.1 x1 c.1 c.2
    have I4 := L.2.1.2.2.2.1 x2 c2.1 c2.2
    refine ⟨fun z => ⟨fun w => ⟨by omega, by omega, by omega, by omega, ?_⟩, fun w => ?_⟩, fun z => ?_⟩
    · rw [if_pos w] at k
      refine c_X8_catches (L.km km0) (by rw [m2]; exact c) (by omega) (by omega) (by omega) (fun h' T => ⟨_, rfl, ?_⟩)
      rw [m2f]
      exact k h' (km0.trans T.km)
    · rw [if_neg w, if_pos (by omega)] at k
      refine c_X8_slams (L.km km0) (by rw [m2]; exact c) c2 (fun h' T => ⟨_, rfl, ?_⟩)
      rw [m2f]
      exact k h' (km0.trans T.km)
    · rw [if_neg (by omega), if_neg (by omega)] at k0; exact k0
  · rw [if_neg (fun z => c2 z.2)] at k0; exact k0
  · rw [if_neg (fun z => c z.1)] at k0; exact k0
theorem q_asks {n dx dm : Nat} {hX hM : AH} {Q : Option AV → AH → Prop} {x1 x2 x3 : Int} (R : RR n hX hM) (hn : n < 512) (hQ : ∀ rx hX', WM GM (dm + 6) 0 mX8_asks [vR (some 0), vI x1, vI x2, vI x3] hM (fun rm hM' => RQ n rx rm hX' hM') → Q rx hX') : WM GX (dx + 4) 0 mX7_asks [vR (some 0), vI x1, vI x2, vI x3] hX Q :=
  cX_asks R.1 (fun _ K => hQ _ _ (cM_asks R.s.lawK (fun _ K' => RQ.mk rfl (R.kk hn K K'))))
