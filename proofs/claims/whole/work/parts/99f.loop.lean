/-! the loops of orders, both sides -/
def BadX (d : Nat) (Q : Option AV → AH → Prop) (ah c : Int) (h1 : AH) : Prop := WM GX (d + 12) 0 mX6_backTo [vR (some 41), vI ah, vR (some 1)] h1 (fun r h2 => ∃ u5, r = some (vI u5) ∧ ∀ h3, h3 = si h2 0 11 c → (∀ i : Int, 0 ≤ i → i < 5 → 0 ≤ gi h3 14 i ∧ gi h3 14 i ≤ 1000000) ∧ ∀ h4, h4 = xRef h3 (-3) → Q (some (vI (-3))) h4)
def BadM (dm : Nat) (P : Option AV → AH → Prop) (y1 c : Int) (h1 : AH) : Prop := WM GM (dm + 9) 0 mX8_giveBack [vR (some 0), vI y1] h1 (fun r h2 => r = none ∧ ∀ h3, h3 = si h2 0 52 c → (-7 < (-3)) ∧ (∀ i : Int, 0 ≤ i → i < 7 → 0 ≤ gi h3 1 i ∧ gi h3 1 i ≤ 1000000) ∧ ∀ h4, h4 = mTell h3 (-3) → P (some (vI (-3))) h4)
def EndX (d : Nat) (Q : Option AV → AH → Prop) (h : AH) : Prop := WM GX (d + 12) 0 mX6_trim [vR (some 41)] h (fun r h1 => r = none ∧ ∀ h2, h2 = si h1 0 14 0 → Q (some (vI (gi h1 0 12))) h2)
def EndR (P : Option AV → AH → Prop) (h : AH) : Prop := (-7 < (gi h 0 50)) ∧ (∀ i : Int, 0 ≤ i → i < 7 → 0 ≤ gi h 1 i ∧ gi h 1 i ≤ 1000000) ∧ ∀ h1, h1 = mTell h (gi h 0 50) → P (some (vI (gi h 0 50))) h1
section LOOPS
variable {r0 : Int → Int} {B : AH → Prop} {d b dm : Nat} {Q : Option AV → AH → Prop} {P : Option AV → AH → Option AV → AH → Prop} {hX0 : AH} {R : List Rec} {ah y1 : Int}
theorem often_M {hM0 : AH} (SM : SaM hM0 R) {hX hM : AH} {dn lt : Int} (I : OrI hX0 hM0 ah dn lt hX hM) {c : Nat} {rc : Rec} (hr : R[c]? = some rc) : gi hM 29 (8 * c + 7) = rc.2.2.2.1 := (I.2.2.2.2.2.2.1.1 _ _ (by unfold eRn; omega)).trans (SM.2.1 c rc hr).2.2.2.2.1
theorem lp_times (St : SaX hX0 R) (hB : ∀ hM0, B hM0 → SaM hM0 R ∧ gi hM0 2 = r0) {c : Nat} {rc : Rec} (hr : R[c]? = some rc) (hc : c < 12) (ha : 0 ≤ ah ∧ ah ≤ 16)
    (nx : ∀ hX1 r1 dn1 lt1, OrX hX0 r0 ah dn1 lt1 r1 hX1 → 0 ≤ dn1 ∧ dn1 ≤ 20 * ((c : Int) + 1) → (∀ rx hX', (∀ hM0 hM, B hM0 → OrI hX0 hM0 ah dn1 lt1 hX1 hM → gi hM 2 = r1 → Lp_X8_orders_140 dm 0 (P rx hX') y1 ((c : Int) + 1) hM) → Q rx hX') → Lp_X7_orders_55 d b Q ah ((c : Int) + 1) hX1)
    (bd : ∀ hX1 r1 dn1 lt1, OrX hX0 r0 ah dn1 lt1 r1 hX1 → 0 ≤ dn1 ∧ dn1 < 240 → (∀ rx hX', (∀ hM0 hM, B hM0 → OrI hX0 hM0 ah dn1 lt1 hX1 hM → gi hM 2 = r1 → BadM dm (P rx hX') y1 c hM) → Q rx hX') → BadX d Q ah c hX1) :
    ∀ (f : Nat) (j dn lt : Int) (r : Int → Int) (hX : AH), j + f = rc.2.2.2.1 → 0 ≤ j → 0 ≤ dn → dn ≤ 20 * c + j → OrX hX0 r0 ah dn lt r hX → (∀ rx hX', (∀ hM0 hM, B hM0 → OrI hX0 hM0 ah dn lt hX hM → gi hM 2 = r → Lp_X8_orders_150 dm 0 (P rx hX') y1 c j hM) → Q rx hX') → Lp_X7_orders_74 d b Q ah c rc.2.2.2.1 j hX
  | 0, j, dn, lt, r, hX, e, j0, d0, dj, I, K => by
    have t := (St.2.2.2.2 c rc hr).2
    have ej : rc.2.2.2.1 = j := by omega
    rw [ej] at t ⊢
    refine l_X7_orders_74 ⟨fun _ => ⟨by omega, nx hX r dn lt I ⟨d0, by omega⟩ (fun rx hX' H => K rx hX' (fun hM0 hM bm IM er => l_X8_orders_150 ?_))⟩, fun z => absurd (Int.le_refl _) z⟩
    rw [often_M (hB _ bm).1 IM hr, ej]
    exact ⟨by omega, by omega, by omega, fun _ => l_X8_orders_200 ⟨by omega, H hM0 hM bm IM er⟩, fun z => absurd (Int.le_refl _) z⟩
  | f + 1, j, dn, lt, r, hX, e, j0, d0, dj, I, K => by
    have t := (St.2.2.2.2 c rc hr).2
    refine l_X7_orders_74 ⟨fun z => by omega, fun _ => or_step (dm := dm) St I hr ⟨d0, by omega⟩ ha (fun hX' dn' lt' r' hd' I' W => ⟨1, rfl, fun z => absurd z (by decide), fun _ => ⟨by omega, lp_times St hB hr hc ha nx bd f (j + 1) dn' lt' r' hX' (by omega) (by omega) (by omega) (by omega) I' (fun rx hX'' H => K rx hX'' (fun hM0 hM bm IM er => l_X8_orders_150 ?_))⟩⟩) (fun hX' I' W => ⟨0, rfl, fun _ => bd hX' r dn lt I' ⟨d0, by omega⟩ (fun rx hX'' H => K rx hX'' (fun hM0 hM bm IM er => l_X8_orders_150 ?_)), fun z => absurd rfl z⟩)⟩
    · rw [often_M (hB _ bm).1 IM hr]
      exact ⟨by omega, by omega, by omega, fun z => by omega, fun _ => ⟨by omega, W hM0 hM (hB _ bm).1 (hB _ bm).2 IM er _ (fun hM' I2 er2 => ⟨0, rfl, fun _ => ⟨by omega, H hM0 hM' bm I2 er2⟩, fun z => absurd (Int.le_refl 0) z⟩)⟩⟩
    · rw [often_M (hB _ bm).1 IM hr]
      exact ⟨by omega, by omega, by omega, fun z => by omega, fun _ => ⟨by omega, W hM0 hM (hB _ bm).1 (hB _ bm).2 IM er _ (fun hM' I2 er2 => ⟨-3, rfl, fun z => absurd z (by decide), fun _ => H hM0 hM' bm I2 er2⟩)⟩⟩
theorem lp_clauses (St : SaX hX0 R) (hB : ∀ hM0, B hM0 → SaM hM0 R ∧ gi hM0 2 = r0) (ha : 0 ≤ ah ∧ ah ≤ 16)
    (fin : ∀ hX1 r1 dn1 lt1, OrX hX0 r0 ah dn1 lt1 r1 hX1 → 0 ≤ dn1 ∧ dn1 ≤ 240 → (∀ rx hX', (∀ hM0 hM, B hM0 → OrI hX0 hM0 ah dn1 lt1 hX1 hM → gi hM 2 = r1 → EndR (P rx hX') hM) → Q rx hX') → EndX d Q hX1)
    (bd : ∀ (c : Nat) hX1 r1 dn1 lt1, c < 12 → OrX hX0 r0 ah dn1 lt1 r1 hX1 → 0 ≤ dn1 ∧ dn1 < 240 → (∀ rx hX', (∀ hM0 hM, B hM0 → OrI hX0 hM0 ah dn1 lt1 hX1 hM → gi hM 2 = r1 → BadM dm (P rx hX') y1 c hM) → Q rx hX') → BadX d Q ah c hX1) :
    ∀ (f c : Nat) (dn lt : Int) (r : Int → Int) (hX : AH), c + f = R.length → 0 ≤ dn → dn ≤ 20 * c → OrX hX0 r0 ah dn lt r hX → (∀ rx hX', (∀ hM0 hM, B hM0 → OrI hX0 hM0 ah dn lt hX hM → gi hM 2 = r → Lp_X8_orders_140 dm 0 (P rx hX') y1 c hM) → Q rx hX') → Lp_X7_orders_55 d b Q ah c hX
  | 0, c, dn, lt, r, hX, e, d0, dc, I, K => by
    have e35 : gi hX 35 0 = R.length := (I.2.2.2.2.1.1 _ _ (by unfold eOr EI; omega)).trans St.2.2.1
    have l12 := St.2.2.2.1
    refine l_X7_orders_55 ⟨fun _ => fin hX r dn lt I ⟨d0, by omega⟩ (fun rx hX' H => K rx hX' (fun hM0 hM bm IM er => l_X8_orders_140 ⟨fun _ => H hM0 hM bm IM er, fun z => ?_⟩)), fun z => by omega⟩
    rw [IM.2.2.2.2.2.2.1.1 0 21 (by unfold eRn; omega), (hB _ bm).1.2.2.2] at z
    omega
  | f + 1, c, dn, lt, r, hX, e, d0, dc, I, K => by
    have e35 : gi hX 35 0 = R.length := (I.2.2.2.2.1.1 _ _ (by unfold eOr EI; omega)).trans St.2.2.1
    have l12 := St.2.2.2.1
    have hc : c < R.length := by omega
    have hr := List.getElem?_eq_getElem hc
    have i6 := I.2.2.2.2.1
    have f36 : gi hX 36 = gi hX0 36 := funext fun k => i6.1 _ _ (by unfold eOr EI; omega)
    have f37 : gi hX 37 = gi hX0 37 := funext fun k => i6.1 _ _ (by unfold eOr EI; omega)
    have f35 : gi hX 35 2 = gi hX0 35 2 := i6.1 _ _ (by unfold eOr EI; omega)
    have D : DrX hX := by
      obtain ⟨d1, d2, d3, d4⟩ := St.1
      exact ⟨by rw [i6.2.1]; exact d1, by rw [i6.2.1]; exact d2, by rw [f35]; exact d3, by rw [f37, f35]; exact d4⟩
    have t := (St.2.2.2.2 c _ hr).2
    have e3 : gi hX 36 (5 * c + 3) = R[c].2.2.2.1 := by
      rw [f36]
      exact (St.2.1 c _ hr).2.2.2.1
    refine l_X7_orders_55 ⟨fun z => by omega, fun _ => c_told D (by omega) (by decide) ⟨_, rfl, ?_⟩⟩
    rw [e3]
    refine lp_times St hB hr (by omega) ha (fun hX1 r1 dn1 lt1 I1 h1 K1 => ?_) (fun hX1 r1 dn1 lt1 I1 h1 K1 => bd c hX1 r1 dn1 lt1 (by omega) I1 h1 K1) (R[c].2.2.2.1).toNat 0 dn lt r hX (by omega) (Int.le_refl 0) d0 (by omega) I (fun rx hX' H => K rx hX' (fun hM0 hM bm IM er => l_X8_orders_140 ⟨fun z => ?_, fun _ => H hM0 hM bm IM er⟩))
    · have := lp_clauses St hB ha fin bd f (c + 1) dn1 lt1 r1 hX1 (by omega) h1.1 (by omega) I1 (by
        rw [show ((c + 1 : Nat) : Int) = (c : Int) + 1 by omega]
        exact K1)
      rw [show ((c + 1 : Nat) : Int) = (c : Int) + 1 by omega] at this
      exact this
    · rw [IM.2.2.2.2.2.2.1.1 0 21 (by unfold eRn; omega), (hB _ bm).1.2.2.2] at z
      omega
end LOOPS
