/-! hanging, battle: what pairs are worth -/
def wH (r : Int → Int) (x k : Int) : Int := if r (31 + x) = 1 then -1 else if rFits r x k then 16 + b2i (r (88 + x) = k) else -1
def wB (r : Int → Int) (x k : Int) : Int := if r (31 + x) = 1 then -1 else b2i (r (129 + k) < r (72 + x))
theorem wH_R (r : Int → Int) : WR (wH r) := fun x k => by
  have := b2i_le (r (88 + x) = k)
  unfold wH
  split
  · omega
  · split <;> omega
theorem wB_R (r : Int → Int) : WR (wB r) := fun x k => by
  have := b2i_le (r (129 + k) < r (72 + x))
  unfold wB
  split <;> omega
/-- what is laid of the worths: doors below x, of door x those below k -/
def LW (W : Int → Int → Int) (m : Nat) (h : AH) (x k : Nat) : Prop := ∀ y l : Nat, l < m → (y < x ∨ (y = x ∧ l < k)) → gi h 44 ((y : Int) * 8 + l) = W y l
theorem LW.put {W : Int → Int → Int} {m : Nat} {h : AH} {x k : Nat} (L : LW W m h x k) (hm : m ≤ 8) (hk : k < m) {v : Int} (hv : v = W x k) : LW W m (si h 44 ((x : Int) * 8 + k) v) x (k + 1) := fun y l hl hy => by
  by_cases z : y = x ∧ l = k
  · rw [z.1, z.2, gi_eq]
    exact hv
  · rw [gi_nk (by omega)]
    exact L y l hl (by omega)
theorem LW.nx {W : Int → Int → Int} {m : Nat} {h : AH} {x : Nat} (L : LW W m h x m) : LW W m h (x + 1) 0 := fun y l hl hy => L y l hl (by omega)
theorem LW.kx {W : Int → Int → Int} {m : Nat} {h h' : AH} {x k : Nat} (L : LW W m h x k) (g : ∀ q, gi h' 44 q = gi h 44 q) : LW W m h' x k := fun y l hl hy => by rw [g]; exact L y l hl hy
section HX
variable {d b : Nat} {Q : Option AV → AH → Prop} {h0 : AH} {r : Int → Int} {n m : Nat}
theorem lp_hX2 (A0 : RA h0 1 r) (hn : (n : Int) = r 1) (hm : (m : Int) = r 0) {x : Nat} (hx : x < n) (k0 : ∀ h', KX h0 h' → LW (wH r) m h' (x + 1) 0 → Lp_X2_hangAll_2 d b Q ((x : Int) + 1) h') :
    ∀ (c k : Nat) (h : AH), k + c = m → KX h0 h → LW (wH r) m h x k → Lp_X2_hangAll_13 d b Q x k h
  | 0, k, h, e, K, L => by
    have I1 := A0.2.2.1
    have A : RA h 1 r := A0.sx (by decide) K.1
    have e0 := A.1.houses
    have ek : k = m := by omega
    subst ek
    exact l_X2_hangAll_13 ⟨fun _ => ⟨by omega, k0 h K L.nx⟩, fun z => absurd (by omega) z⟩
  | c + 1, k, h, e, K, L => by
    have I1 := A0.2.2.1
    have A : RA h 1 r := A0.sx (by decide) K.1
    have e0 := A.1.houses
    have I2 := A.2.2.2.1 x (by omega) (by omega)
    have w8 := I2.2.2.2.2.2.2.2.1
    clear I2
    have eh := A.1.hangs (d := x) (by omega)
    have ec := A.1.cell (d := x) (by omega)
    have em := A.1.home (d := x) (by omega)
    have go : ∀ h' v, KX h0 h' → (∀ q, gi h' 44 q = gi h 44 q) → v = wH r x k → Lp_X2_hangAll_13 d b Q x ((k : Int) + 1) (si h' 44 ((x : Int) * 8 + k) v) := fun h' v K' g hv => by
      have := lp_hX2 A0 hn hm hx k0 c (k + 1) _ (by omega) (K'.si (by unfold coreX; omega)) ((L.kx g).put (by omega) (by omega) hv)
      rwa [Int.natCast_succ] at this
    refine l_X2_hangAll_13 ⟨fun z => by omega, fun _ => ⟨by omega, fun z => ⟨by omega, by omega, by omega, fun h1 e1 => ⟨by omega, ?_⟩⟩, fun z => ?_⟩⟩
    · rw [e1]
      refine go h (-1) K (fun _ => rfl) ?_
      unfold wH
      rw [if_pos]
      have z1 : r (7 + (x : Int)) = -1 := eh.trans z.1
      have z2 : r (15 + (x : Int)) = -1 := ec.trans z.2
      omega
    · have nl : ¬ r (31 + (x : Int)) = 1 := fun w => z ⟨eh.symm.trans (by omega), ec.symm.trans (by omega)⟩
      refine c_X1_isFitting (by decide) A (by omega) (by omega) (fun h2 J2 => ⟨_, rfl, fun w => ⟨by omega, by omega, by omega, fun h3 e3 => ⟨by omega, ?_⟩⟩, fun w => ⟨by omega, by omega, by omega, ?_⟩⟩)
      · rw [e3]
        refine go h2 (-1) (K.trans J2.kx) (fun q => J2.1 _ _ (by decide) (by decide)) ?_
        unfold wH
        rw [if_neg nl, if_neg (b2i_0.mp w)]
      · have ft := b2i_n0.mp w
        rw [show gi h2 5 x = r (88 + (x : Int)) by rw [J2.1 _ _ (by decide) (by decide)]; exact em.symm]
        refine ⟨fun y => ⟨by omega, fun h5 e5 => ⟨by omega, ?_⟩⟩, fun y => ⟨by omega, fun h4 e4 => ⟨by omega, ?_⟩⟩⟩
        · rw [e5]
          refine go h2 17 (K.trans J2.kx) (fun q => J2.1 _ _ (by decide) (by decide)) ?_
          unfold wH
          rw [if_neg nl, if_pos ft, b2i_t y]
          rfl
        · rw [e4]
          refine go h2 16 (K.trans J2.kx) (fun q => J2.1 _ _ (by decide) (by decide)) ?_
          unfold wH
          rw [if_neg nl, if_pos ft, b2i_f y]
          rfl
theorem lp_hX1 (A0 : RA h0 1 r) (hn : (n : Int) = r 1) (hm : (m : Int) = r 0) (k0 : ∀ h', KX h0 h' → (∀ i : Nat, i < n → gi h' 49 i = chs (wH r) m n i) → Q (some (vI (bst (wH r) m n 0 0))) h') :
    ∀ (c x : Nat) (h : AH), x + c = n → KX h0 h → LW (wH r) m h x 0 → Lp_X2_hangAll_2 d b Q x h
  | 0, x, h, e, K, L => by
    have I1 := A0.2.2.1
    have A : RA h 1 r := A0.sx (by decide) K.1
    have e0 := A.1.houses
    have e1 := A.1.doors
    refine l_X2_hangAll_2 ⟨fun _ => ?_, fun z => absurd (by omega) z⟩
    rw [show gi h 1 2 = n by omega, show gi h 1 0 = m by omega]
    exact c_X2_pair (wH_R r) (by omega) (by omega) (fun y l hy hl => L y l hl (by omega)) (fun h' K' hc => ⟨_, rfl, k0 h' (K.trans K') hc⟩)
  | c + 1, x, h, e, K, L => by
    have I1 := A0.2.2.1
    have A : RA h 1 r := A0.sx (by decide) K.1
    have e1 := A.1.doors
    refine l_X2_hangAll_2 ⟨fun z => by omega, fun _ => ?_⟩
    refine lp_hX2 A0 hn hm (x := x) (by omega) (fun h' K' L' => ?_) m 0 h (by omega) K L
    have := lp_hX1 A0 hn hm k0 c (x + 1) h' (by omega) K' L'
    rwa [Int.natCast_succ] at this
theorem c_X2_hangAll (A0 : RA h0 1 r) (hn : (n : Int) = r 1) (hm : (m : Int) = r 0) (k0 : ∀ h', KX h0 h' → (∀ i : Nat, i < n → gi h' 49 i = chs (wH r) m n i) → Q (some (vI (bst (wH r) m n 0 0))) h') : WM GX (d + 4) b mX2_hangAll [vR (some 43), vR (some 1), vR (some 38)] h0 Q :=
  w_X2_hangAll (lp_hX1 A0 hn hm k0 n 0 h0 (by omega) KX.rfl' (fun y l hl hy => by omega))
theorem lp_bX2 (A0 : RA h0 1 r) (hn : (n : Int) = r 1) (hm : (m : Int) = r 2) {x : Nat} (hx : x < n) (k0 : ∀ h', KX h0 h' → LW (wB r) m h' (x + 1) 0 → Lp_X2_fight_2 d b Q ((x : Int) + 1) h') :
    ∀ (c k : Nat) (h : AH), k + c = m → KX h0 h → LW (wB r) m h x k → Lp_X2_fight_12 d b Q x k h
  | 0, k, h, e, K, L => by
    have I1 := A0.2.2.1
    have A : RA h 1 r := A0.sx (by decide) K.1
    have e0 := A.1.foes
    have ek : k = m := by omega
    subst ek
    exact l_X2_fight_12 ⟨fun _ => ⟨by omega, k0 h K L.nx⟩, fun z => absurd (by omega) z⟩
  | c + 1, k, h, e, K, L => by
    have I1 := A0.2.2.1
    have A : RA h 1 r := A0.sx (by decide) K.1
    have e0 := A.1.foes
    have I2 := A.2.2.2.1 x (by omega) (by omega)
    have w8 := I2.2.2.2.2.2.2.2.1
    clear I2
    have eh := A.1.hangs (d := x) (by omega)
    have ec := A.1.cell (d := x) (by omega)
    have ew := A.1.wide (d := x) (by omega)
    have es := A.1.strong (d := k) (by omega)
    have go : ∀ v, v = wB r x k → Lp_X2_fight_12 d b Q x ((k : Int) + 1) (si h 44 ((x : Int) * 8 + k) v) := fun v hv => by
      have := lp_bX2 A0 hn hm hx k0 c (k + 1) _ (by omega) (K.si (by unfold coreX; omega)) (L.put (by omega) (by omega) hv)
      rwa [Int.natCast_succ] at this
    refine l_X2_fight_12 ⟨fun z => by omega, fun _ => ⟨by omega, by omega, by omega, fun z => ⟨by omega, fun h1 e1 => ⟨by omega, ?_⟩⟩, fun z => ⟨by omega, by omega, ?_⟩⟩⟩
    · rw [e1]
      refine go (-1) ?_
      unfold wB
      rw [if_pos]
      have z1 : r (7 + (x : Int)) = -1 := eh.trans z.1
      have z2 : r (15 + (x : Int)) = -1 := ec.trans z.2
      omega
    · have nl : ¬ r (31 + (x : Int)) = 1 := fun w => z ⟨eh.symm.trans (by omega), ec.symm.trans (by omega)⟩
      rw [show gi h 3 x = r (72 + (x : Int)) from ew.symm, show gi h 12 k = r (129 + (k : Int)) from es.symm]
      refine ⟨fun y => ⟨by omega, fun h1 e1 => ⟨by omega, ?_⟩⟩, fun y => ⟨by omega, fun h2 e2 => ⟨by omega, ?_⟩⟩⟩
      · rw [e1]
        refine go 0 ?_
        unfold wB
        rw [if_neg nl, b2i_f (by omega)]
      · rw [e2]
        refine go 1 ?_
        unfold wB
        rw [if_neg nl, b2i_t (by omega)]
theorem lp_bX1 (A0 : RA h0 1 r) (hn : (n : Int) = r 1) (hm : (m : Int) = r 2) (k0 : ∀ h', KX h0 h' → (∀ i : Nat, i < n → gi h' 49 i = chs (wB r) m n i) → Q (some (vI (bst (wB r) m n 0 0))) h') :
    ∀ (c x : Nat) (h : AH), x + c = n → KX h0 h → LW (wB r) m h x 0 → Lp_X2_fight_2 d b Q x h
  | 0, x, h, e, K, L => by
    have I1 := A0.2.2.1
    have A : RA h 1 r := A0.sx (by decide) K.1
    have e0 := A.1.foes
    have e1 := A.1.doors
    refine l_X2_fight_2 ⟨fun _ => ?_, fun z => absurd (by omega) z⟩
    rw [show gi h 1 2 = n by omega, show gi h 1 12 = m by omega]
    exact c_X2_pair (wB_R r) (by omega) (by omega) (fun y l hy hl => L y l hl (by omega)) (fun h' K' hc => ⟨_, rfl, k0 h' (K.trans K') hc⟩)
  | c + 1, x, h, e, K, L => by
    have I1 := A0.2.2.1
    have A : RA h 1 r := A0.sx (by decide) K.1
    have e1 := A.1.doors
    refine l_X2_fight_2 ⟨fun z => by omega, fun _ => ?_⟩
    refine lp_bX2 A0 hn hm (x := x) (by omega) (fun h' K' L' => ?_) m 0 h (by omega) K L
    have := lp_bX1 A0 hn hm k0 c (x + 1) h' (by omega) K' L'
    rwa [Int.natCast_succ] at this
theorem c_X2_fight (A0 : RA h0 1 r) (hn : (n : Int) = r 1) (hm : (m : Int) = r 2) (k0 : ∀ h', KX h0 h' → (∀ i : Nat, i < n → gi h' 49 i = chs (wB r) m n i) → Q (some (vI (bst (wB r) m n 0 0))) h') : WM GX (d + 2) b mX2_fight [vR (some 43), vR (some 1)] h0 Q :=
  w_X2_fight (lp_bX1 A0 hn hm k0 n 0 h0 (by omega) KX.rfl' (fun y l hl hy => by omega))
end HX
def fHang (r : Int → Int) (w : Int) : Int := if w = 0 then bst (wH r) (r 0).toNat (r 1).toNat 0 0 / 16 else if w = 1 then bst (wH r) (r 0).toNat (r 1).toNat 0 0 % 16 else if 2 ≤ w ∧ w - 2 < r 1 ∧ r (31 + (w - 2)) ≠ 1 then chs (wH r) (r 0).toNat (r 1).toNat (w - 2).toNat else -1
def fBat (r : Int → Int) (w : Int) : Int := if w = 0 then bst (wB r) (r 2).toNat (r 1).toNat 0 0 else if 1 ≤ w ∧ w - 1 < r 1 ∧ r (31 + (w - 1)) ≠ 1 then chs (wB r) (r 2).toNat (r 1).toNat (w - 1).toNat else -1
theorem RA.lost {h : AH} {r : Int → Int} (A : RA h 1 r) {x : Int} (h0 : 0 ≤ x) (h1 : x < r 1) : (gi h 7 x = -1 ∧ gi h 8 x = -1) ↔ r (31 + x) = 1 := by
  have I1 := A.2.2.1
  have w8 := (A.2.2.2.1 x h0 h1).2.2.2.2.2.2.2.1
  have eh := A.1.hangs (d := x) (by omega)
  have ec := A.1.cell (d := x) (by omega)
  rw [show gi h 7 x = r (7 + x) from eh.symm, show gi h 8 x = r (15 + x) from ec.symm]
  omega
theorem cX_hanging {d b : Nat} {Q : Option AV → AH → Prop} {h : AH} {r : Int → Int} {x1 : Int} (A : RA h 1 r) (k : ∀ h', KX h h' → Q (some (vI (fHang r x1))) h') : WM GX (d + 5) b mX7_hanging [vR (some 0), vI x1] h Q := by
  have I1 := A.2.2.1
  have e1 := A.1.doors
  have br := bst_R (wH_R r) (r 0).toNat (r 1).toNat 0 0
  unfold fHang at k
  refine w_X7_hanging ?_
  intro R
  refine ⟨fun z => ?_, fun z => ⟨fun z1 => ?_, fun z1 => ⟨by omega, by omega, R, fun z2 => ?_, fun z2 => ?_⟩⟩⟩
  · refine c_X2_hangAll A (n := (r 1).toNat) (m := (r 0).toNat) (by omega) (by omega) (fun h' K hc => ⟨_, rfl, fun _ => ?_, fun w => absurd z w⟩)
    have := k h' K
    rw [if_pos z] at this
    rw [tdiv_e br.1]
    exact ⟨by omega, this⟩
  · refine c_X2_hangAll A (n := (r 1).toNat) (m := (r 0).toNat) (by omega) (by omega) (fun h' K hc => ⟨_, rfl, fun w => absurd w z, fun _ => ⟨fun _ => ?_, fun w => absurd z1 w⟩⟩)
    have := k h' K
    rw [if_neg z, if_pos z1] at this
    rw [tmod_e br.1]
    exact ⟨by omega, this⟩
  · have nl : ¬ r (31 + (x1 - 2)) = 1 := fun q => z2.2.2 ((A.lost (x := x1 - 2) (by omega) (by omega)).mpr q)
    refine c_X2_hangAll A (n := (r 1).toNat) (m := (r 0).toNat) (by omega) (by omega) (fun h' K hc => ⟨_, rfl, fun w => absurd w z, fun _ => ⟨fun w => absurd w z1, fun _ => ⟨by omega, by omega, ?_⟩⟩⟩)
    have := k h' K
    rw [if_neg z, if_neg z1, if_pos ⟨z2.1, by omega, nl⟩] at this
    have c := hc (x1 - 2).toNat (by omega)
    rw [show (((x1 - 2).toNat : Nat) : Int) = x1 - 2 by omega] at c
    rw [c]
    exact this
  · have := k h KX.rfl'
    rw [if_neg z, if_neg z1, if_neg (fun (w : 2 ≤ x1 ∧ x1 - 2 < r 1 ∧ r (31 + (x1 - 2)) ≠ 1) => z2 ⟨w.1, by have := w.2.1; omega, fun q => w.2.2 ((A.lost (x := x1 - 2) (by have := w.1; omega) w.2.1).mp q)⟩)] at this
    exact this
theorem cX_battle {d b : Nat} {Q : Option AV → AH → Prop} {h : AH} {r : Int → Int} {x1 : Int} (A : RA h 1 r) (k : ∀ h', KX h h' → Q (some (vI (fBat r x1))) h') : WM GX (d + 3) b mX7_battle [vR (some 0), vI x1] h Q := by
  have I1 := A.2.2.1
  have e1 := A.1.doors
  unfold fBat at k
  refine w_X7_battle ?_
  intro R
  refine ⟨fun z => ?_, fun z => ⟨by omega, by omega, R, fun z2 => ?_, fun z2 => ?_⟩⟩
  · refine c_X2_fight A (n := (r 1).toNat) (m := (r 2).toNat) (by omega) (by omega) (fun h' K hc => ⟨_, rfl, fun _ => ?_, fun w => absurd z w⟩)
    have := k h' K
    rw [if_pos z] at this
    exact this
  · have nl : ¬ r (31 + (x1 - 1)) = 1 := fun q => z2.2.2 ((A.lost (x := x1 - 1) (by omega) (by omega)).mpr q)
    refine c_X2_fight A (n := (r 1).toNat) (m := (r 2).toNat) (by omega) (by omega) (fun h' K hc => ⟨_, rfl, fun w => absurd w z, fun _ => ⟨by omega, by omega, ?_⟩⟩)
    have := k h' K
    rw [if_neg z, if_pos ⟨z2.1, by omega, nl⟩] at this
    have c := hc (x1 - 1).toNat (by omega)
    rw [show (((x1 - 1).toNat : Nat) : Int) = x1 - 1 by omega] at c
    rw [c]
    exact this
  · have := k h KX.rfl'
    rw [if_neg z, if_neg (fun (w : 1 ≤ x1 ∧ x1 - 1 < r 1 ∧ r (31 + (x1 - 1)) ≠ 1) => z2 ⟨w.1, by have := w.2.1; omega, fun q => w.2.2 ((A.lost (x := x1 - 1) (by have := w.1; omega) w.2.1).mp q)⟩)] at this
    exact this
