/-! search, in the class -/
section SX
variable {d b : Nat} {Q : Option AV → AH → Prop} {h0 : AH} {n : Nat} {T : Nat → Int}
theorem tdiv_R {x : Int} (h : 0 ≤ x ∧ x < 25) : Int.tmod x 5 = x % 5 ∧ Int.tdiv x 5 = x / 5 := ⟨tmod_e h.1, tdiv_e h.1⟩
theorem c_X2_stepsBy {h : AH} (hn : n ≤ 7) (hT : ∀ i, i < n → 0 ≤ T i ∧ T i < 25) (h47 : ∀ i : Nat, i < n → gi h 47 i = T i) {last i S : Nat} (hl : last ≤ n) (hi : i < n) (hS : S < 2 ^ n) (ti : S.testBit i = true) (h46 : gi h 46 ((i : Int) * 128 + ((S - 2 ^ i : Nat) : Int)) = wy n T i (S - 2 ^ i))
    (q : Q (some (vI (sdT n T last i + wy n T i (S - 2 ^ i)))) h) : WM GX (d + 1) b mX2_stepsBy [vR (some 43), vI last, vI i, vI S, vI n] h Q := by
  have hp : 2 ^ n ≤ 2 ^ 7 := Nat.pow_le_pow_right (by decide) hn
  have dl := (pc_del i (by omega) S (by omega) ti).2
  have w := wy_56 hn hT (S := S - 2 ^ i) (last := i) (by omega) (by omega)
  have t := hT i hi
  generalize hD : S - 2 ^ i = D at *
  obtain ⟨e1, e2⟩ := tdiv_R t
  have s := sdT_R hT hl hi
  unfold sdT at q s
  refine w_X2_stepsBy ?_
  rw [h47 i hi, e1, e2, zdel i (by omega) S (by omega) ti, hD, h46]
  refine ⟨fun z => ?_, fun z => ?_⟩
  · rw [if_pos (by omega)] at q s
    have e3 : dst 0 (T i) = zabs (0 - T i % 5) + zabs (0 - T i / 5) := rfl
    rw [show Int.tmod 0 5 = 0 from rfl, show Int.tdiv 0 5 = 0 from rfl, ← e3]
    exact ⟨by omega, by omega, by omega, by omega, by omega, by omega, by omega, by omega, by omega, by omega, by omega, by omega, by omega, by omega, by omega, q⟩
  · rw [if_neg (by omega)] at q s
    have t2 := hT last (by omega)
    obtain ⟨e3, e4⟩ := tdiv_R t2
    rw [h47 last (by omega), e3, e4]
    have e5 : dst (T last) (T i) = zabs (T last % 5 - T i % 5) + zabs (T last / 5 - T i / 5) := rfl
    rw [← e5]
    exact ⟨by omega, by omega, by omega, by omega, by omega, by omega, by omega, by omega, by omega, by omega, by omega, by omega, by omega, by omega, by omega, by omega, q⟩
/-- sets below S are laid -/
def WXl (n : Nat) (T : Nat → Int) (h : AH) (S : Nat) : Prop := ∀ S' last : Nat, S' < S → S' < 2 ^ n → last ≤ n → gi h 46 ((last : Int) * 128 + S') = wy n T last S'
abbrev FX (n : Nat) (T : Nat → Int) (h0 h : AH) : Prop := KX h0 h ∧ ∀ i : Nat, i < n → gi h 47 i = T i
theorem FX.put {h : AH} (F : FX n T h0 h) {i v : Int} (hi : i % 128 ≠ 0) : FX n T h0 (si h 46 i v) := ⟨F.1.si (by unfold coreX; omega), fun i hi => by rw [gi_o (by decide)]; exact F.2 i hi⟩
theorem lp_sX97 (hn : n ≤ 7) (hT : ∀ i, i < n → 0 ≤ T i ∧ T i < 25) {last S : Nat} (hl : last ≤ n) (hS : S < 2 ^ n) (z : S ≠ 0) {h : AH} (F : FX n T h0 h) (M : WXl n T h S) {N : Int}
    (k0 : Lp_X2_shortestWay_57 d b Q n N S ((last : Int) + 1) (si h 46 ((last : Int) * 128 + S) (wy n T last S))) :
    ∀ (c i : Nat) (v : Int), i + c = n → v ≤ 70 ∧ -1 ≤ v → mnf (gS n T (wy n T) last S) c i v = wy n T last S → Lp_X2_shortestWay_70 d b Q n N S last v i h
  | 0, i, v, e, hv, hm => by
    have hp : 2 ^ n ≤ 2 ^ 7 := Nat.pow_le_pow_right (by decide) hn
    have hm' : v = wy n T last S := hm
    subst hm'
    refine l_X2_shortestWay_70 ⟨fun _ => ⟨by omega, by omega, by omega, fun h1 e1 => ⟨by omega, ?_⟩⟩, fun q => absurd (by omega) q⟩
    rw [e1]
    exact k0
  | c + 1, i, v, e, hv, hm => by
    have hp : 2 ^ n ≤ 2 ^ 7 := Nat.pow_le_pow_right (by decide) hn
    rw [mnf_s] at hm
    refine l_X2_shortestWay_70 ⟨fun q => by omega, fun _ => ?_⟩
    rw [zt (by omega) (by omega)]
    refine ⟨fun t => ?_, fun t => ⟨by omega, ?_⟩⟩
    · have dl := pc_del i (by omega) S (by omega) t
      have s := sdT_R hT hl (show i < n by omega)
      have w := wy_56 hn hT (S := S - 2 ^ i) (last := i) (by omega) (by omega)
      refine c_X2_stepsBy hn hT F.2 hl (by omega) hS t (M _ i dl.2 (by omega) (by omega)) ⟨_, rfl, by omega, ?_⟩
      have gv : gS n T (wy n T) last S i = sdT n T last i + wy n T i (S - 2 ^ i) := by unfold gS; rw [if_pos t]
      rw [gv] at hm
      have := lp_sX97 hn hT hl hS z F M k0 c (i + 1) _ (by omega) (by omega) hm
      rwa [Int.natCast_succ] at this
    · have gv : gS n T (wy n T) last S i = 70 := by unfold gS; rw [if_neg t]
      rw [gv, show min v 70 = v by omega] at hm
      have := lp_sX97 hn hT hl hS z F M k0 c (i + 1) v (by omega) hv hm
      rwa [Int.natCast_succ] at this
theorem lp_sX84 (hn : n ≤ 7) (hT : ∀ i, i < n → 0 ≤ T i ∧ T i < 25) {S : Nat} (hS : S < 2 ^ n) (z : S ≠ 0) {N : Int}
    (k0 : ∀ h', FX n T h0 h' → WXl n T h' (S + 1) → Lp_X2_shortestWay_48 d b Q n N ((S : Int) + 1) h') :
    ∀ (c last : Nat) (h : AH), last + c = n + 1 → FX n T h0 h → WXl n T h S → (∀ l : Nat, l < last → gi h 46 ((l : Int) * 128 + S) = wy n T l S) → Lp_X2_shortestWay_57 d b Q n N S last h
  | 0, last, h, e, F, M, hl => by
    have hp : 2 ^ n ≤ 2 ^ 7 := Nat.pow_le_pow_right (by decide) hn
    refine l_X2_shortestWay_57 ⟨fun _ => ⟨by omega, k0 h F (fun S' l h1 h2 h3 => ?_)⟩, fun q => absurd (by omega) q⟩
    by_cases w : S' = S
    · rw [w]; exact hl l (by omega)
    · exact M S' l (by omega) h2 h3
  | c + 1, last, h, e, F, M, hl => by
    have hp : 2 ^ n ≤ 2 ^ 7 := Nat.pow_le_pow_right (by decide) hn
    refine l_X2_shortestWay_57 ⟨fun q => by omega, fun _ => ?_⟩
    refine lp_sX97 hn hT (last := last) (by omega) hS z F M ?_ n 0 70 (by omega) (by decide) (wy_s hn (by omega) z last).symm
    have := lp_sX84 hn hT hS z k0 c (last + 1) (si h 46 ((last : Int) * 128 + S) (wy n T last S)) (by omega) (F.put (by omega)) (fun S' l h1 h2 h3 => by rw [gi_nk (by omega)]; exact M S' l h1 h2 h3) (fun l h1 => by
      by_cases w : l = last
      · rw [w, gi_eq]
      · rw [gi_nk (by omega)]
        exact hl l (by omega))
    rwa [Int.natCast_succ] at this
theorem lp_sX75 (hn : n ≤ 7) (hT : ∀ i, i < n → 0 ≤ T i ∧ T i < 25) (k0 : ∀ h', FX n T h0 h' → WXl n T h' (2 ^ n) → Lp_X2_shortestWay_150 d b Q n ((2 ^ n : Nat) : Int) n (((2 ^ n : Nat) : Int) - 1) 0 h') :
    ∀ (c S : Nat) (h : AH), S + c = 2 ^ n → S ≠ 0 → FX n T h0 h → WXl n T h S → Lp_X2_shortestWay_48 d b Q n ((2 ^ n : Nat) : Int) S h
  | 0, S, h, e, z, F, M => by
    have hp : 2 ^ n ≤ 2 ^ 7 := Nat.pow_le_pow_right (by decide) hn
    exact l_X2_shortestWay_48 ⟨fun _ => ⟨by omega, k0 h F (by rw [show 2 ^ n = S by omega]; exact M)⟩, fun q => absurd (by omega) q⟩
  | c + 1, S, h, e, z, F, M => by
    refine l_X2_shortestWay_48 ⟨fun q => by omega, fun _ => ?_⟩
    refine lp_sX84 hn hT (S := S) (by omega) z (fun h' F' M' => ?_) (n + 1) 0 h (by omega) F M (fun l h1 => by omega)
    have := lp_sX75 hn hT k0 c (S + 1) h' (by omega) (by omega) F' M'
    rwa [Int.natCast_succ] at this
theorem FX.one {h : AH} (F : FX n T h0 h) (hw : ∀ k : Int, gi h0 46 (k * 128) = 0) : WXl n T h 1 := fun S' l h1 h2 h3 => by
  rw [show S' = 0 by omega, wy_0, show (l : Int) * 128 + ((0 : Nat) : Int) = (l : Int) * 128 by omega, F.1.1.2.1 46 _ (by unfold coreX; omega)]
  exact hw l
theorem lp_sX189 (hn : n ≤ 7) (hT : ∀ i, i < n → 0 ≤ T i ∧ T i < 25) {h : AH} (F : FX n T h0 h) (M : WXl n T h (2 ^ n)) {last S k : Nat} (hl : last ≤ n) (hS : S < 2 ^ n) (z : S ≠ 0) (hk : k < n) {N : Int}
    (k0 : Lp_X2_shortestWay_150 d b Q n N (nxS n T last S) ((S - 2 ^ nxS n T last S : Nat) : Int) ((k : Int) + 1) (si h 49 k (T (nxS n T last S)))) :
    ∀ (c i : Nat), i + c = n → fstN (gS n T (wy n T) last S) (wy n T last S) c i = nxS n T last S → Lp_X2_shortestWay_162 d b Q n N last S k (-1) i h
  | 0, i, e, hf => by
    have x := nxS_is hn hT hS hl z
    have hf' : i = nxS n T last S := hf
    omega
  | c + 1, i, e, hf => by
    have hp : 2 ^ n ≤ 2 ^ 7 := Nat.pow_le_pow_right (by decide) hn
    have x := nxS_is hn hT hS hl z
    have wb := wy_56 hn hT hS hl
    rw [fstN_s] at hf
    have fin : i = nxS n T last S → Lp_X2_shortestWay_162 d b Q n N last S k i ((i : Int) + 1) h := fun w => by
      have f1 : (0 ≤ (i : Int) ∧ (i : Int) < 7) ∧ (0 ≤ (k : Int) ∧ (k : Int) < 8) ∧ ∀ h1, h1 = si h 49 k (gi h 47 i) → R32 ((k : Int) + 1) ∧ Lp_X2_shortestWay_150 d b Q n N i (zand S (zxor (zshl 1 i) (-1))) ((k : Int) + 1) h1 := by
        refine ⟨by omega, by omega, fun h1 e1 => ⟨by omega, ?_⟩⟩
        rw [e1, F.2 i (by omega), zdel i (by omega) S (by omega) (by rw [w]; exact x.2.1), w]
        exact k0
      exact l_X2_shortestWay_162 ⟨fun _ => ⟨fun q => by omega, fun _ => f1⟩, fun _ => ⟨fun q => by omega, fun _ => ⟨fun q => by omega, fun _ => f1⟩⟩⟩
    refine l_X2_shortestWay_162 ⟨fun q => by omega, fun _ => ⟨fun _ => ?_, fun q => absurd rfl q⟩⟩
    rw [zt (by omega) (by omega)]
    have go : ¬ gS n T (wy n T) last S i = wy n T last S → Lp_X2_shortestWay_162 d b Q n N last S k (-1) ((i : Int) + 1) h := fun w => by
      rw [if_neg w] at hf
      have := lp_sX189 hn hT F M hl hS z hk k0 c (i + 1) (by omega) hf
      rwa [Int.natCast_succ] at this
    refine ⟨fun t => ?_, fun t => ⟨by omega, go (by unfold gS; rw [if_neg t]; omega)⟩⟩
    have dl := pc_del i (by omega) S (by omega) t
    have gv : gS n T (wy n T) last S i = sdT n T last i + wy n T i (S - 2 ^ i) := by unfold gS; rw [if_pos t]
    refine c_X2_stepsBy hn hT F.2 hl (by omega) hS t (M _ i (by omega) (by omega) (by omega)) ⟨_, rfl, by omega, by omega, by omega, ?_⟩
    rw [M S last hS hS hl]
    refine ⟨fun w => ⟨by omega, fin ?_⟩, fun w => ⟨by omega, go (by rw [gv]; exact w)⟩⟩
    rw [if_pos (gv.trans w)] at hf
    exact hf
theorem lp_sX177 (hn : n ≤ 7) (hT : ∀ i, i < n → 0 ≤ T i ∧ T i < 25) {N : Int} (hN : N = ((2 ^ n : Nat) : Int)) {res : Nat → Int} (k0 : ∀ h', FX n T h0 h' → (∀ i : Nat, i < n → gi h' 49 i = res i) → Q (some (vI (wy n T n (2 ^ n - 1)))) h') :
    ∀ (c k last S : Nat) (h : AH), k + c = n → FX n T h0 h → WXl n T h (2 ^ n) → last ≤ n → S < 2 ^ n → pcN 7 S = c → (∀ i : Nat, i < k → gi h 49 i = res i) → (∀ i : Nat, i < c → rowS n T i last S = res (k + i)) → Lp_X2_shortestWay_150 d b Q n N last S k h
  | 0, k, last, S, h, e, F, M, hl, hS, hp, h1, h2 => by
    have hq : 2 ^ n ≤ 2 ^ 7 := Nat.pow_le_pow_right (by decide) hn
    have hq0 := Nat.two_pow_pos n
    refine l_X2_shortestWay_150 ⟨fun _ => ⟨by omega, by omega, by omega, by omega, ?_⟩, fun q => absurd (by omega) q⟩
    have m := M (2 ^ n - 1) n (by omega) (by omega) (Nat.le_refl _)
    rw [show (n : Int) * 128 + N - 1 = (n : Int) * 128 + ((2 ^ n - 1 : Nat) : Int) by omega, m]
    exact k0 h F (fun i hi => h1 i (by omega))
  | c + 1, k, last, S, h, e, F, M, hl, hS, hp, h1, h2 => by
    have hq : 2 ^ n ≤ 2 ^ 7 := Nat.pow_le_pow_right (by decide) hn
    have z : S ≠ 0 := fun w => by rw [(pc_zero S (by omega)).mpr w] at hp; omega
    have x := nxS_is hn hT hS hl z
    have dl := pc_del _ (show nxS n T last S < 7 by omega) S (by omega) x.2.1
    refine l_X2_shortestWay_150 ⟨fun q => by omega, fun _ => ?_⟩
    refine lp_sX189 hn hT F M hl hS z (k := k) (by omega) ?_ n 0 (by omega) rfl
    have := lp_sX177 hn hT hN k0 c (k + 1) (nxS n T last S) (S - 2 ^ nxS n T last S) (si h 49 k (T (nxS n T last S))) (by omega) ⟨F.1.si (by unfold coreX; omega), fun i hi => by rw [gi_o (by decide)]; exact F.2 i hi⟩ (fun S' l a1 a2 a3 => by rw [gi_o (by decide)]; exact M S' l a1 a2 a3) (by omega) (by omega) (by omega) (fun i hi => by
      by_cases w : i = k
      · rw [w, gi_eq]
        have := h2 0 (by omega)
        rw [rowS_0] at this
        exact this
      · rw [gi_nk (by omega)]
        exact h1 i (by omega)) (fun i hi => by
      have := h2 (i + 1) (by omega)
      rw [rowS_s] at this
      rw [this, show k + 1 + i = k + (i + 1) by omega])
    rwa [Int.natCast_succ] at this
end SX
theorem pc_full : ∀ n, n < 8 → pcN 7 (2 ^ n - 1) = n := by decide +kernel
theorem lp_sX4 {d b : Nat} {Q : Option AV → AH → Prop} {h0 : AH} {a n : Nat} (ha : a < 33554432) (hn : pcN 25 a = n) (h7 : n ≤ 7) (hw : ∀ k : Int, gi h0 46 (k * 128) = 0) (k0 : ∀ h', KX h0 h' → (∀ i : Nat, i < n → gi h' 49 i = rowS n (tld a) i n (2 ^ n - 1)) → Q (some (vI (wy n (tld a) n (2 ^ n - 1)))) h') :
    ∀ (c x m : Nat) (h : AH), x + c = 25 → KX h0 h → TldI a (gi h 47) m x → Lp_X2_shortestWay_4 d b Q a m x h := by
  have hq0 := Nat.two_pow_pos n
  have fin : ∀ h, KX h0 h → (∀ i : Nat, i < n → gi h 47 i = tld a i) → Lp_X2_shortestWay_48 d b Q n (zshl 1 n) 1 h := fun h K ht => by
    have hT : ∀ i, i < n → 0 ≤ tld a i ∧ tld a i < 25 := fun i hi => tld_R (by omega)
    rw [zshl_1 (by omega)]
    have F1 : FX n (tld a) h0 h := ⟨K, ht⟩
    have := lp_sX75 (d := d) (b := b) (Q := Q) (h0 := h0) h7 hT (fun h2 F2 M2 => by
      have := lp_sX177 (d := d) (b := b) (Q := Q) (h0 := h0) h7 hT rfl (res := fun i => rowS n (tld a) i n (2 ^ n - 1)) (fun h3 F3 hr => k0 h3 F3.1 hr) n 0 n (2 ^ n - 1) h2 (by omega) F2 M2 (Nat.le_refl _) (by omega) (pc_full n (by omega)) (fun i hi => by omega) (fun i hi => by rw [Nat.zero_add])
      rwa [show ((2 ^ n - 1 : Nat) : Int) = ((2 ^ n : Nat) : Int) - 1 by omega] at this) (2 ^ n - 1) 1 h (by omega) (by decide) F1 (F1.one hw)
    exact this
  intro c
  induction c with
  | zero =>
    intro x m h e K H
    have hm := H.1
    rw [show 25 - x = 0 by omega] at hm
    have em : m = n := by
      have : (lstB a 0 x).length = 0 := rfl
      omega
    subst em
    exact l_X2_shortestWay_4 ⟨fun _ => fin h K H.2.1, fun q => absurd (by omega) q⟩
  | succ c ih =>
    intro x m h e K H
    have hle := H.le
    refine l_X2_shortestWay_4 ⟨fun q => by omega, fun _ => ⟨fun q => ?_, fun q => ?_⟩⟩
    · have em : m = n := by omega
      subst em
      exact fin h K H.2.1
    · rw [zt (by omega) (by omega)]
      refine ⟨fun t => ⟨by omega, fun h1 e1 => ⟨by omega, by omega, ?_⟩⟩, fun t => ⟨by omega, ?_⟩⟩
      · have := ih (x + 1) (m + 1) h1 (by omega) (by rw [e1]; exact K.si (by unfold coreX; omega)) (H.put (by omega) t (by rw [e1, gi_eq]) (fun i hi => by rw [e1, gi_nk (by omega)]))
        rwa [Int.natCast_succ, Int.natCast_succ] at this
      · have := ih (x + 1) m h (by omega) K (H.pass (by omega) t)
        rwa [Int.natCast_succ] at this
def fSearch (x1 x2 : Int) : Int := if 0 ≤ x1 ∧ x1 < 33554432 ∧ pcI x1 ≤ 7 ∧ -1 ≤ x2 ∧ x2 < pcI x1 then (if x2 = -1 then wy (pcN 25 x1.toNat) (tld x1.toNat) (pcN 25 x1.toNat) (2 ^ pcN 25 x1.toNat - 1) else rowS (pcN 25 x1.toNat) (tld x1.toNat) x2.toNat (pcN 25 x1.toNat) (2 ^ pcN 25 x1.toNat - 1)) else -1
theorem cX_search {d b : Nat} {Q : Option AV → AH → Prop} {h : AH} {x1 x2 : Int} (hw : ∀ k : Int, gi h 46 (k * 128) = 0) (k : ∀ h', KX h h' → Q (some (vI (fSearch x1 x2))) h') : WM GX (d + 3) b mX7_search [vR (some 0), vI x1, vI x2] h Q := by
  have k0 := k h KX.rfl'
  unfold fSearch at k k0
  refine w_X7_search ?_
  intro _ _
  refine ⟨fun c => ?_, fun c => ⟨fun c1 => ⟨by omega, fun c2 => ?_, fun c2 => ⟨fun c3 => ?_, fun c3 => ⟨fun c4 => ?_, fun c4 => ?_⟩⟩⟩, fun c1 => ?_⟩⟩
  · rwa [if_neg (by omega)] at k0
  · rwa [if_neg (by omega)] at k0
  · rwa [if_neg (by omega)] at k0
  · rw [if_pos ⟨by omega, c1, by omega, by omega, c4⟩] at k
    have e : x1 = (x1.toNat : Int) := by omega
    have pe : pcI x1 = (pcN 25 x1.toNat : Nat) := rfl
    have := lp_sX4 (d := d) (b := 0) (h0 := h) (a := x1.toNat) (Q := fun r h1 => ∃ u1, r = some (vI u1) ∧ (x2 = (-1) → Q (some (vI u1)) h1) ∧ (¬(x2 = (-1)) → (0 ≤ x2 ∧ x2 < 8) ∧ Q (some (vI (gi h1 49 x2))) h1)) (by omega) rfl (by omega) hw (fun h' K hr => ⟨_, rfl, fun z => ?_, fun z => ⟨by omega, ?_⟩⟩) 25 0 0 h (by decide) KX.rfl' (TldI.init _ _)
    · rw [← e] at this
      exact w_X2_shortestWay this
    · have := k h' K
      rwa [if_pos z] at this
    · have := k h' K
      rw [if_neg z] at this
      have hr' := hr x2.toNat (by omega)
      rw [show ((x2.toNat : Nat) : Int) = x2 by omega] at hr'
      rw [hr']
      exact this
  · rwa [if_neg (by omega)] at k0
  · rwa [if_neg (by omega)] at k0
