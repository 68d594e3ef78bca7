/-! heard -/
def fHeard (r : Int → Int) (x y : Int) : Int := if (0 ≤ x ∧ x < 64) ∧ 0 ≤ y ∧ y ≤ 6 then accB (fun i => b2i (pcI (zxor (r (96 + i)) x) ≤ y)) (r 1).toNat 0 0 else -1
theorem lp_heardX {d b : Nat} {Q : Option AV → AH → Prop} {h : AH} {x y : Int} (h8 : gi h 1 2 ≤ 8) (hk : ∀ i, 0 ≤ i → i < gi h 1 2 → 0 ≤ gi h 6 i ∧ gi h 6 i < 64) (hx : 0 ≤ x ∧ x < 64) : ∀ (n : Nat) (i s : Int), 0 ≤ i → i + n = gi h 1 2 → Q (some (vI (accB (fun i => b2i (pcI (zxor (gi h 6 i) x) ≤ y)) n i s))) h → Lp_X7_heard_24 d b Q x y s i h
  | 0, i, s, h0, e, k => l_X7_heard_24 ⟨fun _ => k, fun c => absurd (by omega) c⟩
  | n + 1, i, s, h0, e, k => by
    have := zxor_64 (hk i h0 (by omega)) hx
    rw [accB_s] at k
    refine l_X7_heard_24 ⟨fun c => by omega, fun c => ⟨by omega, by omega, fun c1 => ⟨by omega, ?_⟩, fun c1 => ⟨by omega, ?_⟩⟩⟩
    · rw [b1_f (p := pcI (zxor (gi h 6 i) x) ≤ y) (by omega)] at k
      exact lp_heardX h8 hk hx n (i + 1) _ (by omega) (by omega) k
    · rw [b1_t (p := pcI (zxor (gi h 6 i) x) ≤ y) (by omega)] at k
      exact lp_heardX h8 hk hx n (i + 1) _ (by omega) (by omega) k
theorem cX_heard {d b : Nat} {Q : Option AV → AH → Prop} {h : AH} {r : Int → Int} {x1 x2 : Int} (A : RA h 1 r) (k : ∀ h', KX h h' → Q (some (vI (fHeard r x1 x2))) h') : WM GX (d + 1) b mX7_heard [vR (some 0), vI x1, vI x2] h Q := by
  have I1 := A.2.2.1
  have e1 := A.1.doors
  have k0 := k h KX.rfl'
  unfold fHeard at k0
  refine w_X7_heard ?_
  intro _ _
  refine ⟨fun c => ⟨fun c1 => ?_, fun c1 => ⟨fun c2 => ?_, fun c2 => ?_⟩⟩, fun c => ?_⟩
  · rw [if_neg (by omega)] at k0; exact k0
  · rw [if_pos ⟨c, by omega⟩] at k0
    have W : ∀ j : Int, 0 ≤ j → j < r 1 → 0 ≤ r (96 + j) ∧ r (96 + j) < 64 ∧ r (96 + j) = gi h 6 j := fun j j0 j1 => by
      have I2 := A.2.2.2.1 j j0 j1
      exact ⟨by omega, by omega, A.1.knocks (by omega)⟩
    refine lp_heardX (by omega) (fun i i0 i1 => ?_) c (r 1).toNat 0 0 (by omega) (by omega) ?_
    · have := W i i0 (by omega)
      omega
    · rw [accB_congr (g := fun i => b2i (pcI (zxor (r (96 + i)) x1) ≤ x2)) _ _ _ (fun j j0 j1 => by
        rw [(W j j0 (by omega)).2.2])]
      exact k0
  · rw [if_neg (by omega)] at k0; exact k0
  · rw [if_neg (by omega)] at k0; exact k0
theorem lp_heardM {d b : Nat} {Q : Option AV → AH → Prop} {h : AH} {x y : Int} (h8 : gi h 2 1 ≤ 8) (hk : ∀ i, 0 ≤ i → i < gi h 2 1 → 0 ≤ gi h 2 (96 + i) ∧ gi h 2 (96 + i) < 64) (hx : 0 ≤ x ∧ x < 64) : ∀ (n : Nat) (i s : Int), 0 ≤ i → i + n = gi h 2 1 → R32 s → Q (some (vI (accB (fun i => b2i (pcI (zxor (gi h 2 (96 + i)) x) ≤ y)) n i s))) h → Lp_X8_heard_36 d b Q x y s i h
  | 0, i, s, h0, e, hs, k => l_X8_heard_36 ⟨fun _ => k, fun c => absurd (by omega) c⟩
  | n + 1, i, s, h0, e, hs, k => by
    have := zxor_64 (hk i h0 (by omega)) hx
    rw [accB_s] at k
    refine l_X8_heard_36 ⟨fun c => by omega, fun c => ?_⟩
    rw [zxor_comm x, zor_0 hs]
    refine ⟨by omega, by omega, by omega, fun c1 => ⟨by omega, ?_⟩, fun c1 => ⟨by omega, ?_⟩⟩
    · rw [b1_f (p := pcI (zxor (gi h 2 (96 + i)) x) ≤ y) (by omega)] at k
      exact lp_heardM h8 hk hx n (i + 1) _ (by omega) (by omega) hs k
    · rw [b1_t (p := pcI (zxor (gi h 2 (96 + i)) x) ≤ y) (by omega)] at k
      exact lp_heardM h8 hk hx n (i + 1) _ (by omega) (by omega) (zor_R _ _) k
theorem cM_heard {d b : Nat} {Q : Option AV → AH → Prop} {h : AH} {x1 x2 : Int} (L : LawK h) (k : ∀ h', KM h h' → Q (some (vI (fHeard (gi h 2) x1 x2))) h') : WM GM (d + 1) b mX8_heard [vR (some 0), vI x1, vI x2] h Q := by
  have I1 := L.2.1.1
  have k0 := k _ km0
  unfold fHeard at k0
  refine w_X8_heard ?_
  intro _ _ h1 e1
  subst e1
  refine ⟨fun c => ⟨fun c1 => ?_, fun c1 => ?_⟩, fun c => ?_⟩
  · rw [if_pos (by omega)] at k0
    refine lp_heardM (by rw [m2]; omega) (fun i i0 i1 => ?_) (by omega) (gi h 2 1).toNat 0 0 (by omega) (by rw [m2]; omega) (by decide) (by rw [m2f]; exact k0)
    rw [m2] at i1 ⊢
    have I2 := L.2.1.2.1 i i0 i1
    omega
  · rw [if_neg (by omega)] at k0; exact k0
  · rw [if_neg (by omega)] at k0; exact k0
theorem q_heard {n dx dm : Nat} {hX hM : AH} {Q : Option AV → AH → Prop} {x1 x2 : Int} (R : RR n hX hM) (hn : n < 512) (hQ : ∀ rx hX', WM GM (dm + 1) 0 mX8_heard [vR (some 0), vI x1, vI x2] hM (fun rm hM' => RQ n rx rm hX' hM') → Q rx hX') : WM GX (dx + 1) 0 mX7_heard [vR (some 0), vI x1, vI x2] hX Q :=
  cX_heard R.1 (fun _ K => hQ _ _ (cM_heard R.s.lawK (fun _ K' => RQ.mk rfl (R.kk hn K K'))))
/-! knock -/
def kno (g : Int → Int) : Nat → Int → Int → Int → Int × Int
  | 0, _, its, best => (its, best)
  | n + 1, v, its, best => if g v ≤ best then kno g n (v + 1) its best else kno g n (v + 1) v (g v)
theorem kno_s (g : Int → Int) (n : Nat) (v its best : Int) : kno g (n + 1) v its best = if g v ≤ best then kno g n (v + 1) its best else kno g n (v + 1) v (g v) := rfl
def lnR (r : Int → Int) (v : Int) : Int := lun (fun i => r (96 + i)) v (r 1).toNat 0 6
def fKnock (r : Int → Int) (w : Int) : Int := if 0 ≤ w ∧ w ≤ 1 then (let q := kno (lnR r) 63 1 0 (lnR r 0); if w = 0 then q.1 else q.2) else -1
theorem lp_knockX {d b : Nat} {Q : Option AV → AH → Prop} {h : AH} {w : Int} {g : Int → Int} (h8 : 0 ≤ gi h 1 2 ∧ gi h 1 2 ≤ 8) (hk : ∀ i, 0 ≤ i → i < gi h 1 2 → 0 ≤ gi h 6 i ∧ gi h 6 i < 64) (hg : ∀ v, lun (gi h 6) v (gi h 1 2).toNat 0 6 = g v) : ∀ (n : Nat) (v its best : Int), 0 ≤ v → v + n = 64 → (Q (some (vI (if w = 0 then (kno g n v its best).1 else (kno g n v its best).2))) h) → Lp_X7_knock_25 d b Q w its best v h
  | 0, v, its, best, h0, e, k => l_X7_knock_25 ⟨fun _ => ⟨fun z => by rw [if_pos z] at k; exact k, fun z => by rw [if_neg z] at k; exact k⟩, fun c => absurd (by omega) c⟩
  | n + 1, v, its, best, h0, e, k => by
    rw [kno_s] at k
    refine l_X7_knock_25 ⟨fun c => by omega, fun c => ?_⟩
    rw [hg]
    refine ⟨h8, hk, by omega, fun c1 => ⟨by omega, ?_⟩, fun c1 => ⟨by omega, ?_⟩⟩
    · rw [if_pos c1] at k
      exact lp_knockX h8 hk hg n (v + 1) _ _ (by omega) (by omega) k
    · rw [if_neg c1] at k
      exact lp_knockX h8 hk hg n (v + 1) _ _ (by omega) (by omega) k
theorem cX_knock {d b : Nat} {Q : Option AV → AH → Prop} {h : AH} {r : Int → Int} {x1 : Int} (A : RA h 1 r) (k : ∀ h', KX h h' → Q (some (vI (fKnock r x1))) h') : WM GX (d + 2) b mX7_knock [vR (some 0), vI x1] h Q := by
  have I1 := A.2.2.1
  have e1 := A.1.doors
  have W : ∀ j : Int, 0 ≤ j → j < r 1 → 0 ≤ r (96 + j) ∧ r (96 + j) < 64 ∧ r (96 + j) = gi h 6 j := fun j j0 j1 => by
    have I2 := A.2.2.2.1 j j0 j1
    exact ⟨by omega, by omega, A.1.knocks (by omega)⟩
  have hk : ∀ i, 0 ≤ i → i < gi h 1 2 → 0 ≤ gi h 6 i ∧ gi h 6 i < 64 := fun i i0 i1 => by
    have := W i i0 (by omega)
    omega
  have hg : ∀ v, lun (gi h 6) v (gi h 1 2).toNat 0 6 = lnR r v := fun v => by
    unfold lnR
    rw [e1]
    exact lun_congr _ _ _ (fun j j0 j1 => ((W j j0 (by omega)).2.2).symm)
  have k0 := k h KX.rfl'
  unfold fKnock at k0
  refine w_X7_knock ?_
  intro _
  refine ⟨fun c => ?_, fun c => ⟨fun c1 => ⟨by omega, hk, by decide, ?_⟩, fun c1 => ?_⟩⟩
  · rw [if_neg (by omega)] at k0; exact k0
  · rw [if_pos (by omega)] at k0
    rw [hg]
    exact lp_knockX (by omega) hk hg 63 1 _ _ (by decide) (by decide) k0
  · rw [if_neg (by omega)] at k0; exact k0
theorem lp_knockM2 {d b : Nat} {Q : Option AV → AH → Prop} {h : AH} {w best its v : Int} (h8 : gi h 2 1 ≤ 8) (hv : 0 ≤ v ∧ v < 64) (hk : ∀ i, 0 ≤ i → i < gi h 2 1 → 0 ≤ gi h 2 (96 + i) ∧ gi h 2 (96 + i) < 64)
    (k : ∀ l, lun (fun i => gi h 2 (96 + i)) v (gi h 2 1).toNat 0 6 = l → (l ≤ best → Lp_X8_knock_24 d b Q w best its (v + 1) h) ∧ (¬ l ≤ best → Lp_X8_knock_24 d b Q w l v (v + 1) h)) : ∀ (n : Nat) (i l : Int), 0 ≤ i → i + n = gi h 2 1 → lun (fun i => gi h 2 (96 + i)) v n i l = lun (fun i => gi h 2 (96 + i)) v (gi h 2 1).toNat 0 6 → Lp_X8_knock_38 d b Q w best its v l i h
  | 0, i, l, h0, e, hl => by
    obtain ⟨k1, k2⟩ := k l hl.symm
    refine l_X8_knock_38 ⟨fun _ => ⟨fun c => ⟨fun _ => ⟨by omega, k1 c⟩, fun z => absurd c z⟩, fun c => ⟨fun z => absurd z c, fun _ => ⟨by omega, k2 c⟩⟩⟩, fun c => absurd (by omega) c⟩
  | n + 1, i, l, h0, e, hl => by
    have := zxor_64 (hk i h0 (by omega)) hv
    rw [lun_s] at hl
    refine l_X8_knock_38 ⟨fun c => by omega, fun c => ?_⟩
    rw [zxor_comm v]
    refine ⟨by omega, by omega, by omega, fun c1 => ⟨by omega, ?_⟩, fun c1 => ⟨by omega, ?_⟩⟩
    · rw [show min l (pcI (zxor (gi h 2 (96 + i)) v)) = l by omega] at hl
      exact lp_knockM2 h8 hv hk k n (i + 1) _ (by omega) (by omega) hl
    · rw [show min l (pcI (zxor (gi h 2 (96 + i)) v)) = pcI (zxor (gi h 2 (96 + i)) v) by omega] at hl
      exact lp_knockM2 h8 hv hk k n (i + 1) _ (by omega) (by omega) hl
theorem lp_knockM {d b : Nat} {Q : Option AV → AH → Prop} {h : AH} {w : Int} (h8 : 0 ≤ gi h 2 1 ∧ gi h 2 1 ≤ 8) (hk : ∀ i, 0 ≤ i → i < gi h 2 1 → 0 ≤ gi h 2 (96 + i) ∧ gi h 2 (96 + i) < 64) : ∀ (n : Nat) (v its best : Int), 0 ≤ v → v + n = 64 → (Q (some (vI (if w = 0 then (kno (lnR (gi h 2)) n v its best).1 else (kno (lnR (gi h 2)) n v its best).2))) h) → Lp_X8_knock_24 d b Q w best its v h
  | 0, v, its, best, h0, e, k => l_X8_knock_24 ⟨fun _ => ⟨fun z => by rw [if_pos z] at k; exact k, fun z => by rw [if_neg z] at k; exact k⟩, fun c => absurd (by omega) c⟩
  | n + 1, v, its, best, h0, e, k => by
    rw [kno_s] at k
    refine l_X8_knock_24 ⟨fun c => by omega, fun c => lp_knockM2 h8.2 ⟨h0, by omega⟩ hk (fun l hl => ⟨fun c1 => ?_, fun c1 => ?_⟩) (gi h 2 1).toNat 0 6 (by omega) (by omega) rfl⟩
    · rw [if_pos (show lnR (gi h 2) v ≤ best from by unfold lnR; rw [hl]; exact c1)] at k
      exact lp_knockM h8 hk n (v + 1) _ _ (by omega) (by omega) k
    · rw [if_neg (show ¬ lnR (gi h 2) v ≤ best from by unfold lnR; rw [hl]; exact c1)] at k
      have := lp_knockM (d := d) (b := b) (Q := Q) (w := w) h8 hk n (v + 1) v (lnR (gi h 2) v) (by omega) (by omega) k
      rwa [show lnR (gi h 2) v = l from hl] at this
theorem cM_knock {d b : Nat} {Q : Option AV → AH → Prop} {h : AH} {x1 : Int} (L : LawK h) (k : ∀ h', KM h h' → Q (some (vI (fKnock (gi h 2) x1))) h') : WM GM (d + 1) b mX8_knock [vR (some 0), vI x1] h Q := by
  have I1 := L.2.1.1
  have k0 := k _ km0
  unfold fKnock at k0
  refine w_X8_knock ?_
  intro _ h1 e1
  subst e1
  refine ⟨fun c => ?_, fun c => ?_⟩
  · rw [if_pos c] at k0
    refine lp_knockM (by rw [m2]; omega) (fun i i0 i1 => ?_) 64 0 _ _ (by decide) (by decide) ?_
    · rw [m2] at i1 ⊢
      have I2 := L.2.1.2.1 i i0 i1
      omega
    · rw [m2f]
      rw [kno_s]
      have p0 : 0 ≤ lnR (gi h 2) 0 := lun_0 _ _ _ (by decide)
      rw [if_neg (show ¬ lnR (gi h 2) 0 ≤ -1 by omega)]
      exact k0
  · rw [if_neg c] at k0; exact k0
theorem q_knock {n dx dm : Nat} {hX hM : AH} {Q : Option AV → AH → Prop} {x1 : Int} (R : RR n hX hM) (hn : n < 512) (hQ : ∀ rx hX', WM GM (dm + 1) 0 mX8_knock [vR (some 0), vI x1] hM (fun rm hM' => RQ n rx rm hX' hM') → Q rx hX') : WM GX (dx + 2) 0 mX7_knock [vR (some 0), vI x1] hX Q :=
  cX_knock R.1 (fun _ K => hQ _ _ (cM_knock R.s.lawK (fun _ K' => RQ.mk rfl (R.kk hn K K'))))
/-! wreck -/
def fWreck (r : Int → Int) (c m : Int) : Int := if (0 ≤ c ∧ c < 25) ∧ 0 ≤ m ∧ m ≤ 99 then accB (fun i => b2i (drf (fun a => r (104 + a)) m.toNat i = c)) 25 0 0 else -1
theorem lp_wreckX {d b : Nat} {Q : Option AV → AH → Prop} {h : AH} {c m : Int} {g : Int → Int} (hm : 0 ≤ m ∧ m ≤ 99) (hg : ∀ i, drf (gi h 11) m.toNat i = drf g m.toNat i) : ∀ (n : Nat) (i s : Int), 0 ≤ i → i + n = 25 → Q (some (vI (accB (fun i => b2i (drf g m.toNat i = c)) n i s))) h → Lp_X7_wreck_24 d b Q c m s i h
  | 0, i, s, h0, e, k => l_X7_wreck_24 ⟨fun _ => k, fun c => absurd (by omega) c⟩
  | n + 1, i, s, h0, e, k => by
    rw [accB_s] at k
    refine l_X7_wreck_24 ⟨fun c => by omega, fun _ => ?_⟩
    rw [show Int.toNat m = m.toNat from rfl, hg]
    refine ⟨by omega, by omega, fun c1 => ⟨by omega, ?_⟩, fun c1 => ⟨by omega, ?_⟩⟩
    · rw [b1_t (p := drf g m.toNat i = c) c1] at k
      exact lp_wreckX hm hg n (i + 1) _ (by omega) (by omega) k
    · rw [b1_f (p := drf g m.toNat i = c) c1] at k
      exact lp_wreckX hm hg n (i + 1) _ (by omega) (by omega) k
theorem RA.dr {h : AH} {o : Nat} {r : Int → Int} (A : RA h o r) (n : Nat) (a : Int) : drf (gi h (o + 10)) n a = drf (fun a => r (104 + a)) n a := drf_congr (fun a a0 a1 => (A.1.drift ⟨a0, a1⟩).symm) n a
theorem cX_wreck {d b : Nat} {Q : Option AV → AH → Prop} {h : AH} {r : Int → Int} {x1 x2 : Int} (A : RA h 1 r) (k : ∀ h', KX h h' → Q (some (vI (fWreck r x1 x2))) h') : WM GX (d + 2) b mX7_wreck [vR (some 0), vI x1, vI x2] h Q := by
  have k0 := k h KX.rfl'
  unfold fWreck at k0
  refine w_X7_wreck ?_
  intro _ _
  refine ⟨fun c => ⟨fun c1 => ?_, fun c1 => ⟨fun c2 => ?_, fun c2 => ?_⟩⟩, fun c => ?_⟩
  · rw [if_neg (by omega)] at k0; exact k0
  · rw [if_pos ⟨c, by omega⟩] at k0
    exact lp_wreckX (g := fun a => r (104 + a)) (by omega) (fun i => A.dr _ i) 25 0 0 (by decide) (by decide) k0
  · rw [if_neg (by omega)] at k0; exact k0
  · rw [if_neg (by omega)] at k0; exact k0
theorem lp_wreckM2 {d b : Nat} {Q : Option AV → AH → Prop} {h : AH} {c m s i : Int} (hm : m ≤ 99) (hi : 0 ≤ i ∧ i < 25) {res : Int}
    (k : (res = c → Lp_X8_wreck_31 d b Q c m (zor s (zshl 1 i)) (i + 1) h) ∧ (¬ res = c → Lp_X8_wreck_31 d b Q c m (zor s 0) (i + 1) h)) : ∀ (n : Nat) (t a : Int), 0 ≤ t → t + n = m → -1 ≤ a ∧ a < 25 → drf (fun a => gi h 2 (104 + a)) n a = res → Lp_X8_wreck_45 d b Q c m s i a t h
  | 0, t, a, h0, e, ha, hr => by
    unfold drf at hr
    subst hr
    exact l_X8_wreck_45 ⟨fun _ => ⟨fun z => ⟨by omega, k.1 z⟩, fun z => ⟨by omega, k.2 z⟩⟩, fun z => absurd (by omega) z⟩
  | n + 1, t, a, h0, e, ha, hr => by
    unfold drf at hr
    refine l_X8_wreck_45 ⟨fun z => by omega, fun _ => ⟨fun z => ?_, fun z => ⟨by omega, by omega, by omega, by omega, ?_⟩⟩⟩
    · rw [if_neg (by omega)] at hr
      subst hr
      exact ⟨fun z => ⟨by omega, k.1 z⟩, fun z => ⟨by omega, k.2 z⟩⟩
    · rw [if_pos (by omega)] at hr
      exact lp_wreckM2 hm hi k n (t + 1) _ (by omega) (by omega) (zbes_R (by omega)) hr
theorem lp_wreckM {d b : Nat} {Q : Option AV → AH → Prop} {h : AH} {c m : Int} (hm : 0 ≤ m ∧ m ≤ 99) : ∀ (n : Nat) (i s : Int), 0 ≤ i → i + n = 25 → R32 s → Q (some (vI (accB (fun i => b2i (drf (fun a => gi h 2 (104 + a)) m.toNat i = c)) n i s))) h → Lp_X8_wreck_31 d b Q c m s i h
  | 0, i, s, h0, e, hs, k => l_X8_wreck_31 ⟨fun _ => k, fun c => absurd (by omega) c⟩
  | n + 1, i, s, h0, e, hs, k => by
    rw [accB_s] at k
    refine l_X8_wreck_31 ⟨fun c => by omega, fun _ => lp_wreckM2 hm.2 ⟨h0, by omega⟩ ⟨fun c1 => ?_, fun c1 => ?_⟩ m.toNat 0 i (by omega) (by omega) (by omega) rfl⟩
    · rw [b1_t (p := drf (fun a => gi h 2 (104 + a)) m.toNat i = c) c1] at k
      exact lp_wreckM hm n (i + 1) _ (by omega) (by omega) (zor_R _ _) k
    · rw [b1_f (p := drf (fun a => gi h 2 (104 + a)) m.toNat i = c) c1] at k
      rw [zor_0 hs]
      exact lp_wreckM hm n (i + 1) _ (by omega) (by omega) hs k
theorem cM_wreck {d b : Nat} {Q : Option AV → AH → Prop} {h : AH} {x1 x2 : Int} (k : ∀ h', KM h h' → Q (some (vI (fWreck (gi h 2) x1 x2))) h') : WM GM (d + 2) b mX8_wreck [vR (some 0), vI x1, vI x2] h Q := by
  have k0 := k _ km0
  unfold fWreck at k0
  refine w_X8_wreck ?_
  intro _ _ h1 e1
  subst e1
  refine ⟨fun c => ⟨fun c1 => ?_, fun c1 => ?_⟩, fun c => ?_⟩
  · rw [if_pos ⟨c, c1⟩] at k0
    exact lp_wreckM c1 25 0 0 (by decide) (by decide) (by decide) (by rw [m2f]; exact k0)
  · rw [if_neg (by omega)] at k0; exact k0
  · rw [if_neg (by omega)] at k0; exact k0
theorem q_wreck {n dx dm : Nat} {hX hM : AH} {Q : Option AV → AH → Prop} {x1 x2 : Int} (R : RR n hX hM) (hn : n < 512) (hQ : ∀ rx hX', WM GM (dm + 2) 0 mX8_wreck [vR (some 0), vI x1, vI x2] hM (fun rm hM' => RQ n rx rm hX' hM') → Q rx hX') : WM GX (dx + 2) 0 mX7_wreck [vR (some 0), vI x1, vI x2] hX Q :=
  cX_wreck R.1 (fun _ K => hQ _ _ (cM_wreck (fun _ K' => RQ.mk rfl (R.kk hn K K'))))
/-! afloat: its answer is a long -/
def RQL (n : Nat) (rx rm : Option AV) (hX hM : AH) : Prop := ∃ v : Int, rx = some (vL v) ∧ rm = some (vL v) ∧ RR (n + 1) hX hM
theorem RQL.mk {n : Nat} {x m : Int} {hX hM : AH} (e : x = m) (R : RR (n + 1) hX hM) : RQL n (some (vL x)) (some (vL m)) hX hM := ⟨x, rfl, by rw [e], R⟩
def afl (r : Int → Int) (x : Int) : Nat → Int → Int → Int
  | 0, _, p => p
  | n + 1, a, p => if zbes a (r (104 + a)) = -1 then 0 else afl r x n (zbes a (r (104 + a))) (p * (10 - rSlam r x a) / 10)
theorem afl_0 (r : Int → Int) (x a p : Int) : afl r x 0 a p = p := rfl
theorem afl_s (r : Int → Int) (x : Int) (n : Nat) (a p : Int) : afl r x (n + 1) a p = if zbes a (r (104 + a)) = -1 then 0 else afl r x n (zbes a (r (104 + a))) (p * (10 - rSlam r x a) / 10) := rfl
def fAfl (r : Int → Int) (x m : Int) : Int := if (0 ≤ x ∧ x < r 1) ∧ r (15 + x) ≠ -1 ∧ 0 ≤ m ∧ m ≤ 60 then afl r x m.toNat (r (15 + x)) 1000000000000 else -1
theorem rSlam_R (r : Int → Int) (x c : Int) : 0 ≤ rSlam r x c ∧ rSlam r x c ≤ 10 := by
  unfold rSlam zwit
  split <;> (try split) <;> omega
theorem afl_st {p u : Int} (hp : 0 ≤ p ∧ p ≤ 1000000000000) (hu : 0 ≤ u ∧ u ≤ 10) : R64 (p * (10 - u)) ∧ Int.tdiv (p * (10 - u)) 10 = p * (10 - u) / 10 ∧ 0 ≤ p * (10 - u) / 10 ∧ p * (10 - u) / 10 ≤ 1000000000000 := by
  have h1 : 0 ≤ p * (10 - u) := Int.mul_nonneg hp.1 (by omega)
  have h2 : p * (10 - u) ≤ p * 10 := Int.mul_le_mul_of_nonneg_left (by omega) hp.1
  rw [tdiv_e h1]
  omega
theorem lp_aflX {d b : Nat} {Q : Option AV → AH → Prop} {r : Int → Int} {x m : Int} (hx : 0 ≤ x ∧ x < r 1) (hm : m ≤ 60) {h0 : AH} (k : ∀ h', KX h0 h' → Q (some (vL (afl r x m.toNat (r (15 + x)) 1000000000000))) h') : ∀ (n : Nat) (t a p : Int) (h : AH), 0 ≤ t → t + n = m → 0 ≤ a ∧ a < 25 → 0 ≤ p ∧ p ≤ 1000000000000 → RA h 1 r → KX h0 h → afl r x n a p = afl r x m.toNat (r (15 + x)) 1000000000000 → Lp_X7_afloat_56 d b Q x m p a t h
  | 0, t, a, p, h, t0, e, ha, hp, A, K, hr => by
    rw [afl_0] at hr
    refine l_X7_afloat_56 ⟨fun _ => ?_, fun z => absurd (by omega) z⟩
    rw [hr]
    exact k h K
  | n + 1, t, a, p, h, t0, e, ha, hp, A, K, hr => by
    rw [afl_s] at hr
    refine l_X7_afloat_56 ⟨fun z => by omega, fun _ => c_X1_slamOf (by decide) A hx ha (fun h' J => ?_)⟩
    have A' : RA h' 1 r := A.jx (by decide) J
    have bs := rSlam_R r x a
    obtain ⟨s1, s2, s3, s4⟩ := afl_st hp bs
    have ed : drf (gi h' 11) (Int.toNat 1) a = zbes a (r (104 + a)) := by
      rw [show drf (gi h' 11) (Int.toNat 1) a = drf (fun a => r (104 + a)) 1 a from A'.dr 1 a]
      show (if 0 ≤ a ∧ a < 25 then _ else _) = _
      rw [if_pos ha]
      rfl
    refine ⟨_, rfl, by omega, s1, by rw [s2]; omega, by omega, by decide, ?_⟩
    rw [ed, s2]
    refine ⟨fun z => ?_, fun z => ⟨by omega, ?_⟩⟩
    · rw [if_pos z] at hr
      have := k h' (K.trans J.kx)
      rwa [← hr] at this
    · rw [if_neg z] at hr
      have zb := zbes_R (x := r (104 + a)) ha
      exact lp_aflX hx hm k n (t + 1) _ _ h' (by omega) (by omega) ⟨by omega, zb.2⟩ ⟨s3, s4⟩ A' (K.trans J.kx) hr
theorem cX_afloat {d b : Nat} {Q : Option AV → AH → Prop} {h : AH} {r : Int → Int} {x1 x2 : Int} (A : RA h 1 r) (k : ∀ h', KX h h' → Q (some (vL (fAfl r x1 x2))) h') : WM GX (d + 4) b mX7_afloat [vR (some 0), vI x1, vI x2] h Q := by
  have I1 := A.2.2.1
  have e1 := A.1.doors
  have k0 := k h KX.rfl'
  unfold fAfl at k k0
  refine w_X7_afloat ?_
  intro _ _
  refine ⟨fun c => ⟨by omega, ?_⟩, fun c => ?_⟩
  · have c' : 0 ≤ x1 ∧ x1 < r 1 := by omega
    have ec := A.1.cell (d := x1) (by omega)
    rw [show gi h 8 x1 = r (15 + x1) from ec.symm]
    refine ⟨fun z => ?_, fun z => ⟨fun c1 => ?_, fun c1 => ⟨fun c2 => ⟨by omega, ?_⟩, fun c2 => ?_⟩⟩⟩
    · rw [if_neg (fun q => q.2.1 z)] at k0; exact k0
    · rw [if_neg (by omega)] at k0; exact k0
    · rw [if_pos ⟨c', z, by omega, c2⟩] at k
      have I2 := A.2.2.2.1 x1 c'.1 c'.2
      exact lp_aflX c' c2 k x2.toNat 0 _ _ h (by omega) (by omega) (by omega) (by decide) A KX.rfl' rfl
    · rw [if_neg (by omega)] at k0; exact k0
  · rw [if_neg (by omega)] at k0; exact k0
theorem lp_aflM {d b : Nat} {Q : Option AV → AH → Prop} {r : Int → Int} {x m : Int} (hx : 0 ≤ x ∧ x < r 1) (hm : m ≤ 60) {h0 : AH} (hr0 : gi h0 2 = r) (L : LawK h0) (k : ∀ h', KM h0 h' → Q (some (vL (afl r x m.toNat (r (15 + x)) 1000000000000))) h') : ∀ (n : Nat) (t a p : Int) (h : AH), 0 ≤ t → t + n = m → -1 ≤ a ∧ a < 25 → 0 ≤ p ∧ p ≤ 1000000000000 → KM h0 h → (if a = -1 then 0 else afl r x n a p) = afl r x m.toNat (r (15 + x)) 1000000000000 → Lp_X8_afloat_55 d b Q x m p a t h
  | n, t, a, p, h, t0, e, ha, hp, K, hr => by
    have er : gi h 2 = r := K.row.trans hr0
    have fin : (a = -1 → Q (some (vL 0)) h) := fun z => by
      rw [if_pos z] at hr
      have := k h K
      rwa [← hr] at this
    match n, e, hr with
    | 0, e, hr =>
      refine l_X8_afloat_55 ⟨fun _ => ⟨fin, fun z => ?_⟩, fun z => absurd (by omega) z⟩
      rw [if_neg z] at hr
      rw [afl_0] at hr
      rw [hr]
      exact k h K
    | n + 1, e, hr =>
      refine l_X8_afloat_55 ⟨fun z => by omega, fun _ => ⟨fun z => ⟨fin, fun w => absurd z w⟩, fun z => c_X8_slams (L.km K) (by rw [er]; exact hx) (by omega) (fun h' T => ?_)⟩⟩
      rw [if_neg z] at hr
      rw [afl_s] at hr
      rw [er]
      have er' : gi h' 2 = r := T.row.trans er
      have bs := rSlam_R r x a
      obtain ⟨s1, s2, s3, s4⟩ := afl_st hp bs
      refine ⟨_, rfl, by omega, s1, by rw [s2]; omega, by omega, by omega, by omega, by omega, ?_⟩
      rw [er', s2]
      exact lp_aflM hx hm hr0 L k n (t + 1) _ _ h' (by omega) (by omega) (zbes_R (by omega)) ⟨s3, s4⟩ (K.trans T.km) hr
theorem cM_afloat {d b : Nat} {Q : Option AV → AH → Prop} {h : AH} {x1 x2 : Int} (L : LawK h) (k : ∀ h', KM h h' → Q (some (vL (fAfl (gi h 2) x1 x2))) h') : WM GM (d + 6) b mX8_afloat [vR (some 0), vI x1, vI x2] h Q := by
  have I1 := L.2.1.1
  have k0 := k _ km0
  unfold fAfl at k k0
  refine w_X8_afloat ?_
  intro _ _ h1 e1
  subst e1
  rw [m2]
  refine ⟨by omega, fun c => ⟨by omega, ?_⟩, fun c => ?_⟩
  · rw [m2]
    refine ⟨fun z => ⟨fun c1 => ⟨by omega, by omega, ?_⟩, fun c1 => ?_⟩, fun z => ?_⟩
    · rw [if_pos ⟨c, z, c1⟩] at k
      have I2 := L.2.1.2.1 x1 c.1 c.2
      refine lp_aflM c c1.2 (h0 := si h 0 0 0) m2f (L.km km0) (fun h' K => k h' (km0.trans K)) x2.toNat 0 _ _ _ (by omega) (by omega) (by omega) (by decide) KM.rfl' ?_
      rw [if_neg z]
    · rw [if_neg (fun q => c1 q.2.2)] at k0; exact k0
    · rw [if_neg (fun q => z q.2.1)] at k0; exact k0
  · rw [if_neg (fun q => c q.1)] at k0; exact k0
theorem q_afloat {n dx dm : Nat} {hX hM : AH} {Q : Option AV → AH → Prop} {x1 x2 : Int} (R : RR n hX hM) (hn : n < 512) (hQ : ∀ rx hX', WM GM (dm + 6) 0 mX8_afloat [vR (some 0), vI x1, vI x2] hM (fun rm hM' => RQL n rx rm hX' hM') → Q rx hX') : WM GX (dx + 4) 0 mX7_afloat [vR (some 0), vI x1, vI x2] hX Q :=
  cX_afloat R.1 (fun _ K => hQ _ _ (cM_afloat R.s.lawK (fun _ K' => RQL.mk rfl (R.kk hn K K'))))
