/-! hanging, battle in the reference -/
def wW (war : Int) (r : Int → Int) : Int → Int → Int := if war = 0 then wH r else wB r
def mW (war : Int) (r : Int → Int) : Int := if war = 0 then r 0 else r 2
theorem wW_R (war : Int) (r : Int → Int) : WR (wW war r) := by
  unfold wW
  split
  · exact wH_R r
  · exact wB_R r
theorem wW_lost {war x k : Int} {r : Int → Int} (h : r (31 + x) = 1) : wW war r x k = -1 := by
  unfold wW
  split
  · unfold wH; rw [if_pos h]
  · unfold wB; rw [if_pos h]
theorem c_X8_worthOf {d b : Nat} {Q : Option AV → AH → Prop} {h : AH} {war x k : Int} {r : Int → Int} (L : LawK h) (er : gi h 2 = r) (hx : 0 ≤ x ∧ x < r 1) (hk : 0 ≤ k ∧ k < mW war r) (hl : r (31 + x) = 0) (q : ∀ h', TL h h' → Q (some (vI (wW war r x k))) h') (hw : R32 war) (hr0 : R32 x ∧ R32 k) : WM GM (d + 6) b mX8_worthOf [vR (some 0), vI war, vI x, vI k] h Q := by
  have I1 := L.2.1.1
  rw [er] at I1
  refine w_X8_worthOf ?_
  rw [er]
  refine ⟨fun z => ?_, fun z => ?_⟩
  · unfold mW at hk
    rw [if_pos z] at hk
    unfold wW at q
    rw [if_pos z] at q
    refine c_X8_fits L (by rw [er]; exact hx) (by rw [er]; exact hk) (fun h' T => ⟨_, rfl, ?_⟩)
    have er' : gi h' 2 = r := T.row.trans er
    have q' := q h' T
    unfold wH at q'
    rw [if_neg (by omega)] at q'
    rw [er, er']
    refine ⟨fun w => ?_, fun w => ⟨by omega, by omega, fun y => ?_, fun y => ?_⟩⟩
    · rw [if_neg (b2i_0.mp w)] at q'
      exact q'
    · rw [if_pos (b2i_n0.mp w), b2i_t y] at q'
      exact q'
    · rw [if_pos (b2i_n0.mp w), b2i_f y] at q'
      exact q'
  · unfold mW at hk
    rw [if_neg z] at hk
    unfold wW at q
    rw [if_neg z] at q
    have q' := q h TL.rfl'
    unfold wB at q'
    rw [if_neg (by omega)] at q'
    exact ⟨by omega, by omega, by omega, by omega, fun w => qb_f q' (by omega), fun w => qb_t q' (by omega)⟩
section HM
variable {d b : Nat} {Q : Option AV → AH → Prop} {h0 : AH} {r : Int → Int} {n m : Nat} {war : Int}
def MX (W : Int → Int → Int) (n m : Nat) (h : AH) (j : Nat) : Prop := ∀ i : Nat, i ≤ j → ∀ s : Nat, s < 2 ^ m → gi h 22 (256 * ((n : Int) - i) + s) = bst W m i ((n : Int) - i) s
theorem MX.eq {W : Int → Int → Int} {h h' : AH} {j : Nat} (M : MX W n m h j) (g : ∀ q, gi h' 22 q = gi h 22 q) : MX W n m h' j := fun i hi s hs => by rw [g]; exact M i hi s hs
theorem MX.put {W : Int → Int → Int} {h : AH} {j : Nat} (M : MX W n m h j) (hm : m ≤ 8) (hj : j < n) {s : Nat} (hs : s < 2 ^ m) {v : Int} : MX W n m (si h 22 (256 * ((n : Int) - j - 1) + s) v) j := fun i hi s' hs' => by
  have p := p256 hm
  rw [gi_nk (by omega)]
  exact M i hi s' hs'
theorem lp_M153 (hm : m ≤ 8) (hn : n ≤ 8) {j : Nat} (hj : j < n) {k : Nat} (hk : k < m) {W : Int → Int → Int} (hR : WR W)
    (k0 : ∀ h', KM h0 h' → MX W n m h' j → (∀ s : Nat, s < 2 ^ m → gi h' 22 (256 * ((n : Int) - j - 1) + s) = mxf (gW W (bst W m j ((n : Int) - j - 1 + 1)) ((n : Int) - j - 1) s) (k + 1) 0 (bst W m j ((n : Int) - j - 1 + 1) s)) → Lp_X8_layMost_120 d b Q war m ((n : Int) - j - 1) ((k : Int) + 1) h') :
    ∀ (c s : Nat) (h : AH), s + c = 2 ^ m → KM h0 h → MX W n m h j → (∀ s' : Nat, s' < 2 ^ m → gi h 22 (256 * ((n : Int) - j - 1) + s') = if s' < s then mxf (gW W (bst W m j ((n : Int) - j - 1 + 1)) ((n : Int) - j - 1) s') (k + 1) 0 (bst W m j ((n : Int) - j - 1 + 1) s') else mxf (gW W (bst W m j ((n : Int) - j - 1 + 1)) ((n : Int) - j - 1) s') k 0 (bst W m j ((n : Int) - j - 1 + 1) s')) →
      Lp_X8_layMost_153 d b Q war m ((n : Int) - j - 1) k (W ((n : Int) - j - 1) k) s h
  | 0, s, h, e, K, M, hs => by
    refine l_X8_layMost_153 ⟨fun _ => ⟨by omega, k0 h K M (fun s' h' => ?_)⟩, fun z => absurd (by rw [zshl_1 (by omega)]; omega) z⟩
    have := hs s' h'
    rwa [if_pos (by omega)] at this
  | c + 1, s, h, e, K, M, hs => by
    have p := p256 hm
    have wr := hR ((n : Int) - j - 1) k
    have lst : ∀ s', mxf (gW W (bst W m j ((n : Int) - j - 1 + 1)) ((n : Int) - j - 1) s') (k + 1) 0 (bst W m j ((n : Int) - j - 1 + 1) s') = max (mxf (gW W (bst W m j ((n : Int) - j - 1 + 1)) ((n : Int) - j - 1) s') k 0 (bst W m j ((n : Int) - j - 1 + 1) s')) (gW W (bst W m j ((n : Int) - j - 1 + 1)) ((n : Int) - j - 1) s' k) := fun s' => by
      rw [mxf_last, Int.zero_add]
    have pos : ∀ s', 0 ≤ mxf (gW W (bst W m j ((n : Int) - j - 1 + 1)) ((n : Int) - j - 1) s') k 0 (bst W m j ((n : Int) - j - 1 + 1) s') ∧ mxf (gW W (bst W m j ((n : Int) - j - 1 + 1)) ((n : Int) - j - 1) s') k 0 (bst W m j ((n : Int) - j - 1 + 1) s') ≤ 17 * (j + 1) := fun s' => by
      have i0 := bst_R hR m j ((n : Int) - j - 1 + 1) s'
      refine mxf_R (fun l => ?_) k 0 _ i0.1 (by omega)
      unfold gW
      have hl := hR ((n : Int) - j - 1) l
      split
      · omega
      · have := bst_R hR m j ((n : Int) - j - 1 + 1) (s' ||| 2 ^ l.toNat)
        omega
    have gk : ∀ s', gW W (bst W m j ((n : Int) - j - 1 + 1)) ((n : Int) - j - 1) s' k = if W ((n : Int) - j - 1) k = -1 ∨ s'.testBit k = true then -1 else W ((n : Int) - j - 1) k + bst W m j ((n : Int) - j - 1 + 1) (s' ||| 2 ^ k) := fun s' => by
      unfold gW
      rw [Int.toNat_natCast]
    have skip : gW W (bst W m j ((n : Int) - j - 1 + 1)) ((n : Int) - j - 1) s k = -1 → Lp_X8_layMost_153 d b Q war m ((n : Int) - j - 1) k (W ((n : Int) - j - 1) k) ((s : Int) + 1) h := fun z => by
      have := lp_M153 hm hn hj hk hR k0 c (s + 1) h (by omega) K M (fun s' h' => by
        rw [hs s' h']
        by_cases w : s' = s
        · rw [w, if_neg (by omega), if_pos (by omega), lst, z]
          have := pos s
          omega
        · by_cases w2 : s' < s
          · rw [if_pos w2, if_pos (by omega)]
          · rw [if_neg w2, if_neg (by omega)])
      rwa [Int.natCast_succ] at this
    have put : ∀ v, v = mxf (gW W (bst W m j ((n : Int) - j - 1 + 1)) ((n : Int) - j - 1) s) (k + 1) 0 (bst W m j ((n : Int) - j - 1 + 1) s) → Lp_X8_layMost_153 d b Q war m ((n : Int) - j - 1) k (W ((n : Int) - j - 1) k) ((s : Int) + 1) (si h 22 (256 * ((n : Int) - j - 1) + s) v) := fun v hv => by
      have := lp_M153 hm hn hj hk hR k0 c (s + 1) (si h 22 (256 * ((n : Int) - j - 1) + s) v) (by omega) (K.si (by unfold coreM; omega)) (M.put hm hj (by omega)) (fun s' h' => by
        by_cases w : s' = s
        · rw [w, gi_eq, if_pos (by omega)]
          exact hv
        · rw [gi_nk (by omega), hs s' h']
          by_cases w2 : s' < s
          · rw [if_pos w2, if_pos (by omega)]
          · rw [if_neg w2, if_neg (by omega)])
      rwa [Int.natCast_succ] at this
    refine l_X8_layMost_153 ⟨fun z => by rw [zshl_1 (by omega)] at z; omega, fun _ => ⟨fun z => ⟨by omega, ?_⟩, fun z => ?_⟩⟩
    · refine k0 h K M (fun s' h' => ?_)
      rw [hs s' h', lst]
      split
      · rfl
      · have := pos s'
        rw [gk, if_pos (Or.inl z)]
        omega
    · rw [zt (by omega) (by omega)]
      refine ⟨fun w => ⟨by omega, skip (by rw [gk, if_pos (Or.inr w)])⟩, fun w => ?_⟩
      have w' : s.testBit k = false := by
        cases q : s.testBit k
        · rfl
        · exact absurd q w
      have oa := or_add k (by omega) s (by omega) w'
      have ol := or_lt (m := m) hk (show s < 2 ^ m by omega)
      have b2 := bst_R hR m j ((n : Int) - j - 1 + 1) (s ||| 2 ^ k)
      have cur := hs s (by omega)
      rw [if_neg (by omega)] at cur
      have ps := pos s
      have mv := M j (Nat.le_refl _) (s ||| 2 ^ k) ol
      rw [show (n : Int) - j = (n : Int) - j - 1 + 1 by omega] at mv
      have ix : 256 * ((n : Int) - j - 1) + 256 + s + zshl 1 k = 256 * ((n : Int) - j - 1 + 1) + ((s ||| 2 ^ k : Nat) : Int) := by
        rw [zshl_1 (by omega), oa]
        omega
      rw [ix, mv, cur]
      have gv := gk s
      rw [if_neg (fun q => q.elim z w)] at gv
      refine ⟨by omega, by omega, by omega, by omega, by omega, by omega, by omega, by omega, by omega, by omega, by omega, fun y => ⟨by omega, by omega, by omega, by omega, fun h1 e1 => ⟨by omega, ?_⟩⟩, fun y => ⟨by omega, fun h2 e2 => ⟨by omega, ?_⟩⟩⟩
      · rw [e1]
        exact put _ (by rw [lst, gv]; omega)
      · rw [e2]
        exact put _ (by rw [lst, gv]; omega)
theorem lp_M120 (L : LawK h0) (er0 : gi h0 2 = r) (hn : (n : Int) = r 1) (hm : (m : Int) = mW war r) (h8 : n ≤ 8 ∧ m ≤ 8) (hw : R32 war) {j : Nat} (hj : j < n)
    (k0 : ∀ h', KM h0 h' → MX (wW war r) n m h' (j + 1) → Lp_X8_layMost_63 d b Q war m ((n : Int) - j - 1 + (-1)) h') :
    ∀ (c k : Nat) (h : AH), k + c = m → KM h0 h → MX (wW war r) n m h j → (∀ s : Nat, s < 2 ^ m → gi h 22 (256 * ((n : Int) - j - 1) + s) = mxf (gW (wW war r) (bst (wW war r) m j ((n : Int) - j - 1 + 1)) ((n : Int) - j - 1) s) k 0 (bst (wW war r) m j ((n : Int) - j - 1 + 1) s)) → Lp_X8_layMost_120 d b Q war m ((n : Int) - j - 1) k h
  | c, k, h, e, K, M, hs => by
    have I1 := L.2.1.1
    rw [er0] at I1
    have er : gi h 2 = r := K.row.trans er0
    have I2 := L.2.1.2.1 ((n : Int) - j - 1)
    rw [er0] at I2
    have w8 := (I2 (by omega) (by omega)).2.2.2.2.2.2.2.1
    clear I2
    have fin : (∀ s : Nat, s < 2 ^ m → gi h 22 (256 * ((n : Int) - j - 1) + s) = bst (wW war r) m (j + 1) ((n : Int) - j - 1) s) → MX (wW war r) n m h (j + 1) := fun hh i hi s hs' => by
      by_cases z : i = j + 1
      · rw [z, show (n : Int) - ((j + 1 : Nat) : Int) = (n : Int) - j - 1 by omega]
        exact hh s hs'
      · exact M i (by omega) s hs'
    match c, e with
    | 0, e =>
      have ek : k = m := by omega
      subst ek
      exact l_X8_layMost_120 ⟨fun _ => ⟨by omega, k0 h K (fin (fun s hs' => hs s hs'))⟩, fun z => absurd (by omega) z⟩
    | c + 1, e =>
      refine l_X8_layMost_120 ⟨fun z => by omega, fun _ => ⟨by omega, by omega, ?_⟩⟩
      rw [er]
      refine ⟨fun z => ?_, fun z => ⟨by omega, k0 h K (fin (fun s hs' => ?_))⟩⟩
      · refine c_X8_worthOf (L.km K) er (by omega) (by omega) z (fun h1 T1 => ⟨_, rfl, ?_⟩) hw ⟨by omega, by omega⟩
        have g22 : ∀ q, gi h1 22 q = gi h 22 q := fun q => T1.1 _ _ (by omega)
        refine lp_M153 (h0 := h0) h8.2 h8.1 hj (by omega) (wW_R war r) (fun h' K' M' hs' => ?_) (2 ^ m) 0 h1 (by omega) (K.trans T1.km) (M.eq g22) (fun s' h' => by rw [g22, if_neg (by omega)]; exact hs s' h')
        have := lp_M120 L er0 hn hm h8 hw hj k0 c (k + 1) h' (by omega) K' M' hs'
        rwa [Int.natCast_succ] at this
      · have lo : r (31 + ((n : Int) - j - 1)) = 1 := by omega
        have b0 := bst_R (wW_R war r) m j ((n : Int) - j - 1 + 1) s
        have nn : ∀ l, gW (wW war r) (bst (wW war r) m j ((n : Int) - j - 1 + 1)) ((n : Int) - j - 1) s l = -1 := fun l => by
          unfold gW
          rw [if_pos (Or.inl (wW_lost lo))]
        rw [hs s hs', bst_s, mxf_none nn k 0 _ b0.1, mxf_none nn m 0 _ b0.1]
theorem lp_M71 (hm : m ≤ 8) (hn : n ≤ 8) {W : Int → Int → Int} {j : Nat} (hj : j < n)
    (k0 : ∀ h', KM h0 h' → MX W n m h' j → (∀ s : Nat, s < 2 ^ m → gi h' 22 (256 * ((n : Int) - j - 1) + s) = bst W m j ((n : Int) - j - 1 + 1) s) → Lp_X8_layMost_120 d b Q war m ((n : Int) - j - 1) 0 h') :
    ∀ (c s : Nat) (h : AH), s + c = 2 ^ m → KM h0 h → MX W n m h j → (∀ s' : Nat, s' < s → gi h 22 (256 * ((n : Int) - j - 1) + ((s' : Nat) : Int)) = bst W m j ((n : Int) - j - 1 + 1) s') → Lp_X8_layMost_71 d b Q war m ((n : Int) - j - 1) s h
  | 0, s, h, e, K, M, hs => l_X8_layMost_71 ⟨fun _ => k0 h K M (fun s' h' => hs s' (by omega)), fun z => absurd (by rw [zshl_1 (by omega)]; omega) z⟩
  | c + 1, s, h, e, K, M, hs => by
    have p := p256 hm
    have mv := M j (Nat.le_refl _) s (by omega)
    rw [show (n : Int) - j = (n : Int) - j - 1 + 1 by omega] at mv
    refine l_X8_layMost_71 ⟨fun z => by rw [zshl_1 (by omega)] at z; omega, fun _ => ⟨by omega, by omega, by omega, by omega, by omega, by omega, by omega, fun h1 e1 => ⟨by omega, ?_⟩⟩⟩
    rw [show 256 * ((n : Int) - j - 1) + 256 + (s : Int) = 256 * ((n : Int) - j - 1 + 1) + s by omega, mv] at e1
    have hs' : ∀ s' : Nat, s' < s + 1 → gi h1 22 (256 * ((n : Int) - j - 1) + ((s' : Nat) : Int)) = bst W m j ((n : Int) - j - 1 + 1) s' := fun s' h' => by
      rw [e1]
      by_cases w : s' = s
      · rw [w, gi_eq]
      · rw [gi_nk (by omega)]
        exact hs s' (by omega)
    have := lp_M71 hm hn hj k0 c (s + 1) h1 (by omega) (by rw [e1]; exact K.si (by unfold coreM; omega)) (by rw [e1]; exact M.put hm hj (by omega)) hs'
    rwa [Int.natCast_succ] at this
theorem lp_M63 (L : LawK h0) (er0 : gi h0 2 = r) (hn : (n : Int) = r 1) (hm : (m : Int) = mW war r) (h8 : n ≤ 8 ∧ m ≤ 8) (hw : R32 war) (k0 : ∀ h', KM h0 h' → MX (wW war r) n m h' n → Q none h') :
    ∀ (c j : Nat) (h : AH), j + c = n → KM h0 h → MX (wW war r) n m h j → Lp_X8_layMost_63 d b Q war m ((n : Int) - j - 1) h
  | 0, j, h, e, K, M => by
    have ej : j = n := by omega
    subst ej
    exact l_X8_layMost_63 ⟨fun _ => k0 h K M, fun z => absurd (by omega) z⟩
  | c + 1, j, h, e, K, M => by
    refine l_X8_layMost_63 ⟨fun z => by omega, fun _ => ?_⟩
    refine lp_M71 (W := wW war r) h8.2 h8.1 (j := j) (by omega) (fun h1 K1 M1 hs1 => ?_) (2 ^ m) 0 h (by omega) K M (fun s' h' => by omega)
    refine lp_M120 L er0 hn hm h8 hw (j := j) (by omega) (fun h2 K2 M2 => ?_) m 0 h1 (by omega) K1 M1 hs1
    have := lp_M63 L er0 hn hm h8 hw k0 c (j + 1) h2 (by omega) K2 M2
    rwa [show (n : Int) - ((j + 1 : Nat) : Int) - 1 = (n : Int) - j - 1 + (-1) by omega] at this
theorem lp_M30 (h8 : n ≤ 8 ∧ m ≤ 8) {W : Int → Int → Int} (k0 : ∀ h', KM h0 h' → MX W n m h' 0 → Lp_X8_layMost_63 d b Q war m ((n : Int) - 1) h') :
    ∀ (c s : Nat) (h : AH), s + c = 256 → KM h0 h → (∀ s' : Nat, s' < s → gi h 22 (256 * (n : Int) + ((s' : Nat) : Int)) = 0) → Lp_X8_layMost_30 d b Q war n m s h
  | 0, s, h, e, K, hz => by
    have p := p256 h8.2
    refine l_X8_layMost_30 ⟨fun _ => ⟨by omega, k0 h K (fun i hi s' hs => ?_)⟩, fun z => absurd (by omega) z⟩
    have i0 : i = 0 := by omega
    subst i0
    rw [show (n : Int) - ((0 : Nat) : Int) = n by omega]
    exact hz s' (by omega)
  | c + 1, s, h, e, K, hz => by
    refine l_X8_layMost_30 ⟨fun z => by omega, fun _ => ⟨by omega, by omega, by omega, fun h1 e1 => ⟨by omega, ?_⟩⟩⟩
    have hz' : ∀ s' : Nat, s' < s + 1 → gi h1 22 (256 * (n : Int) + ((s' : Nat) : Int)) = 0 := fun s' h' => by
      rw [e1]
      by_cases w : s' = s
      · rw [w, gi_eq]
      · rw [gi_nk (by omega)]
        exact hz s' (by omega)
    have := lp_M30 h8 k0 c (s + 1) h1 (by omega) (by rw [e1]; exact K.si (by unfold coreM; omega)) hz'
    rwa [Int.natCast_succ] at this
theorem mW_R {h : AH} (L : LawK h) (war : Int) : 0 ≤ mW war (gi h 2) ∧ mW war (gi h 2) ≤ 8 := by
  have I1 := L.2.1.1
  unfold mW
  split <;> omega
theorem c_X8_layMost {h : AH} (L : LawK h) (hw : R32 war) (k0 : ∀ h', KM h h' → MX (wW war (gi h 2)) (gi h 2 1).toNat (mW war (gi h 2)).toNat h' (gi h 2 1).toNat → Q none h') : WM GM (d + 7) b mX8_layMost [vR (some 0), vI war] h Q := by
  have I1 := L.2.1.1
  have mr := mW_R L war
  have go : ∀ M, M = mW war (gi h 2) → Lp_X8_layMost_30 d b Q war (gi h 2 1) M 0 h := fun M eM => by
    have := lp_M30 (d := d) (b := b) (Q := Q) (h0 := h) (n := (gi h 2 1).toNat) (m := (mW war (gi h 2)).toNat) (war := war) (W := wW war (gi h 2)) ⟨by omega, by omega⟩ (fun h' K' M' => by
      have := lp_M63 (d := d) (b := b) (Q := Q) L rfl (n := (gi h 2 1).toNat) (m := (mW war (gi h 2)).toNat) (by omega) (by omega) ⟨by omega, by omega⟩ hw k0 (gi h 2 1).toNat 0 h' (by omega) K' M'
      rwa [show (((gi h 2 1).toNat : Nat) : Int) - ((0 : Nat) : Int) - 1 = (((gi h 2 1).toNat : Nat) : Int) - 1 by omega] at this) 256 0 h (by omega) KM.rfl' (fun s' h' => by omega)
    rw [show (((gi h 2 1).toNat : Nat) : Int) = gi h 2 1 by omega, show (((mW war (gi h 2)).toNat : Nat) : Int) = M by omega] at this
    exact this
  exact w_X8_layMost ⟨fun z => go _ (by unfold mW; rw [if_pos z]), fun z => go _ (by unfold mW; rw [if_neg z])⟩
end HM
