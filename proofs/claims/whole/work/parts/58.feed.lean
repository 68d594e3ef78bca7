/-! feed: bytes of words -/
theorem zand_255 (x : Int) : zand x 255 = x % 256 := by
  have e : Int32.ofInt x = nI (x % 4294967296).toNat := by
    apply Int32.toBitVec_inj.mp
    show BitVec.ofInt 32 x = BitVec.ofNat 32 (x % 4294967296).toNat
    apply BitVec.eq_of_toNat_eq
    rw [BitVec.toNat_ofInt, BitVec.toNat_ofNat]
    have : (x % 4294967296).toNat < 2 ^ 32 := by omega
    rw [Nat.mod_eq_of_lt this]
    rfl
  have e2 := oI 255
  have a : (x % 4294967296).toNat &&& 255 = (x % 4294967296).toNat % 256 := Nat.and_two_pow_sub_one_eq_mod _ 8
  unfold zand
  rw [e, show (255 : Int) = ((255 : Nat) : Int) from rfl, e2, n_and, a, nI_toInt (by omega)]
  omega
theorem zshr_i {x : Int} {k : Nat} (hx : R32 x) (hk : k < 32) : zshr x k = x / 2 ^ k := by
  unfold zshr
  rw [oI k]
  show (((Int32.ofInt x).toBitVec).sshiftRight' ((nI k &&& 31).toBitVec.smod 32)).toInt = _
  unfold BitVec.sshiftRight'
  rw [shc k hk, BitVec.toInt_sshiftRight, Int.shiftRight_eq_div_pow]
  have : (Int32.ofInt x).toBitVec.toInt = x := z32 hx
  rw [this]
  rfl
theorem zushr_m {x : Int} {k : Nat} (hk : k < 32) : zushr x k % 256 = (x % 4294967296) / 2 ^ k % 256 := by
  unfold zushr
  rw [oI k]
  show (((BitVec.ofInt 32 x) >>> (((nI k).toUInt32 &&& Int32.toUInt32 31).toBitVec % 32)).toInt) % 256 = _
  rw [BitVec.ushiftRight_eq', shu k hk, BitVec.toInt_eq_toNat_bmod, BitVec.toNat_ushiftRight, BitVec.toNat_ofInt, Nat.shiftRight_eq_div_pow]
  have e : ((((x % ((2 ^ 32 : Nat) : Int)).toNat / 2 ^ k : Nat)) : Int) = (x % 4294967296) / 2 ^ k := by
    rw [Int.natCast_ediv, Int.toNat_of_nonneg (by omega)]
    congr 1
  rw [e]
  generalize (x % 4294967296) / 2 ^ k = y
  rw [Int.bmod_def]
  show (if y % ((4294967296 : Nat) : Int) < (((4294967296 : Nat) : Int) + 1) / 2 then _ else _) % 256 = _
  split
  · show y % 4294967296 % 256 = _
    omega
  · show (y % 4294967296 - 4294967296) % 256 = _
    omega
theorem byte_eq {x k : Int} (hx : R32 x) (hk : k = 0 ∨ k = 8 ∨ k = 16 ∨ k = 24) : zand (zushr x k) 255 = zand (zshr x k) 255 ∧ 0 ≤ zand (zshr x k) 255 ∧ zand (zshr x k) 255 ≤ 255 := by
  rw [zand_255, zand_255]
  have a : zushr x k % 256 = zshr x k % 256 := by
    rcases hk with z | z | z | z <;> subst z
    · have h1 := zushr_m (x := x) (k := 0) (by decide)
      have h2 := zshr_i (x := x) (k := 0) hx (by decide)
      show zushr x ((0 : Nat) : Int) % 256 = zshr x ((0 : Nat) : Int) % 256
      rw [h1, h2]
      show x % 4294967296 / 1 % 256 = x / 1 % 256
      omega
    · have h1 := zushr_m (x := x) (k := 8) (by decide)
      have h2 := zshr_i (x := x) (k := 8) hx (by decide)
      show zushr x ((8 : Nat) : Int) % 256 = zshr x ((8 : Nat) : Int) % 256
      rw [h1, h2]
      show x % 4294967296 / 256 % 256 = x / 256 % 256
      omega
    · have h1 := zushr_m (x := x) (k := 16) (by decide)
      have h2 := zshr_i (x := x) (k := 16) hx (by decide)
      show zushr x ((16 : Nat) : Int) % 256 = zshr x ((16 : Nat) : Int) % 256
      rw [h1, h2]
      show x % 4294967296 / 65536 % 256 = x / 65536 % 256
      omega
    · have h1 := zushr_m (x := x) (k := 24) (by decide)
      have h2 := zshr_i (x := x) (k := 24) hx (by decide)
      show zushr x ((24 : Nat) : Int) % 256 = zshr x ((24 : Nat) : Int) % 256
      rw [h1, h2]
      show x % 4294967296 / 16777216 % 256 = x / 16777216 % 256
      omega
  omega
def apX (h : AH) (v : Int) : AH := si (si h 30 (gi h 29 1) v) 29 1 (gi h 29 1 + 1)
def apM (h : AH) (v : Int) : AH := si (si h 9 (gi h 0 13) v) 0 13 (gi h 0 13 + 1)
theorem apX_len {h : AH} {v : Int} : gi (apX h v) 29 1 = gi h 29 1 + 1 := gi_eq
theorem apM_len {h : AH} {v : Int} : gi (apM h v) 0 13 = gi h 0 13 + 1 := gi_eq
def a4X (h : AH) (x : Int) : AH := apX (apX (apX (apX h (zand (zshr x 24) 255)) (zand (zshr x 16) 255)) (zand (zshr x 8) 255)) (zand (zshr x 0) 255)
def a4M (h : AH) (x : Int) : AH := apM (apM (apM (apM h (zand (zshr x 24) 255)) (zand (zshr x 16) 255)) (zand (zshr x 8) 255)) (zand (zshr x 0) 255)
theorem a4X_len {h : AH} {x : Int} : gi (a4X h x) 29 1 = gi h 29 1 + 4 := by
  unfold a4X
  rw [apX_len, apX_len, apX_len, apX_len]
  omega
theorem a4M_len {h : AH} {x : Int} : gi (a4M h x) 0 13 = gi h 0 13 + 4 := by
  unfold a4M
  rw [apM_len, apM_len, apM_len, apM_len]
  omega
theorem st_append {d b : Nat} {Q : Option AV → AH → Prop} {h : AH} {x y y' : Int} (hx : R32 x) (hy : y = 0 ∨ y = 8 ∨ y = 16 ∨ y = 24) (e : y + (-8) = y') (L : 0 ≤ gi h 29 1 ∧ gi h 29 1 < 400) (k : Lp_X4_append_3 d b Q x y' (apX h (zand (zshr x y) 255))) : Lp_X4_append_3 d b Q x y h := by
  refine l_X4_append_3 ⟨fun z => by omega, fun _ => ⟨fun z => by omega, fun _ => ⟨L, fun h1 e1 => ⟨by omega, fun h2 e2 => ⟨by omega, ?_⟩⟩⟩⟩⟩
  subst e2 e1
  rw [(byte_eq hx hy).1, e]
  exact k
theorem c_X4_append {d b : Nat} {Q : Option AV → AH → Prop} {h : AH} {x : Int} (hx : R32 x) (L : 0 ≤ gi h 29 1 ∧ gi h 29 1 + 4 ≤ 400) (k : Q none (a4X h x)) : WM GX d b mX4_append [vR (some 29), vI x] h Q := by
  refine w_X4_append (st_append hx (by omega) (y' := 16) rfl (by omega) (st_append hx (by omega) (y' := 8) rfl (by rw [apX_len]; omega) (st_append hx (by omega) (y' := 0) rfl (by rw [apX_len, apX_len]; omega) (st_append hx (by omega) (y' := -8) rfl (by rw [apX_len, apX_len, apX_len]; omega) (l_X4_append_3 ⟨fun _ => k, fun z => absurd (by decide) z⟩)))))
theorem st_four {d b : Nat} {Q : Option AV → AH → Prop} {h : AH} {x y y' : Int} (hy : y = 0 ∨ y = 8 ∨ y = 16 ∨ y = 24) (e : y + (-8) = y') (L : 0 ≤ gi h 0 13 ∧ gi h 0 13 < 400) (k : Lp_X8_four_3 d b Q x y' (apM h (zand (zshr x y) 255))) : Lp_X8_four_3 d b Q x y h := by
  refine l_X8_four_3 ⟨fun z => by omega, fun _ => ⟨L, fun h1 e1 => ⟨by omega, fun h2 e2 => ⟨by omega, ?_⟩⟩⟩⟩
  subst e2 e1
  rw [e]
  exact k
theorem c_X8_four {d b : Nat} {Q : Option AV → AH → Prop} {h : AH} {x : Int} (L : 0 ≤ gi h 0 13 ∧ gi h 0 13 + 4 ≤ 400) (k : Q none (a4M h x)) : WM GM d b mX8_four [vR (some 0), vI x] h Q := by
  refine w_X8_four (st_four (by omega) (y' := 16) rfl (by omega) (st_four (by omega) (y' := 8) rfl (by rw [apM_len]; omega) (st_four (by omega) (y' := 0) rfl (by rw [apM_len, apM_len]; omega) (st_four (by omega) (y' := -8) rfl (by rw [apM_len, apM_len, apM_len]; omega) (l_X8_four_3 ⟨fun _ => k, fun z => absurd (by decide) z⟩)))))
/-- a byte more on both tapes -/
theorem RR.app {n : Nat} {hX hM : AH} (R : RR n hX hM) {v : Int} (hv : 0 ≤ v ∧ v ≤ 255) (h4 : gi hM 0 13 < 400) : RR n (apX hX v) (apM hM v) := by
  obtain ⟨a1, a2, a3, a4, ⟨b1, b2, b3, b4, b5, b6, b7, b8⟩, a6, a7⟩ := R
  obtain ⟨l1, l2, l3, l4⟩ := b1
  have q : ∀ (a : Nat) (k : Int), a ≠ 29 → a ≠ 30 → gi (apX hX v) a k = gi hX a k := fun a k z w => by
    unfold apX
    rw [gi_ne (by omega), gi_ne (by omega)]
  have p : ∀ (a : Nat) (k : Int), (a ≠ 0 ∨ k ≠ 13) → a ≠ 9 → gi (apM hM v) a k = gi hM a k := fun a k z w => by
    unfold apM
    rw [gi_ne (by omega), gi_ne (by omega)]
  have d : DynX hX (apX hX v) := (DynX.rfl'.si (by decide)).si (by decide)
  have e2 : gi (apM hM v) 2 = gi hM 2 := funext fun k => p _ k (by omega) (by decide)
  refine ⟨?_, a2.to (q _ _ (by decide) (by decide)) (fun k => q _ _ (by decide) (by decide)) (p _ _ (by omega) (by decide)) (fun k => p _ _ (by omega) (by decide)) (fun k => p _ _ (by omega) (by decide)) (p _ _ (by omega) (by decide)) (fun u z => by rw [e2]; exact z),
    a3.to (fun k => q _ _ (by decide) (by decide)) (fun q' a b k => q _ _ (by omega) (by omega)) d (fun _ _ _ _ => rfl) (fun k => p _ _ (by omega) (by decide)) (fun k => p _ _ (by omega) (by decide)),
    a4.to (q _ _ (by decide) (by decide)) (fun q' a b k => q _ _ (by omega) (by omega)) (fun k => q _ _ (by decide) (by decide)) (p _ _ (by omega) (by decide)) (fun k => p _ _ (by omega) (by decide)) (fun k => p _ _ (by omega) (by decide)),
    ⟨⟨by rw [apX_len, apM_len, l1], by rw [apM_len]; omega, by rw [apM_len]; omega, fun i i0 i1 => ?_⟩, ?_, ?_, ?_, ?_, ?_, fun k k0 k1 => ?_, b8⟩, a6.to (p _ _ (by omega) (by decide)) (fun _ _ _ => rfl), a7⟩
  · rw [e2]
    exact a1.to (fun c hc k => q _ _ (by omega) (by omega)) d (fun _ => rfl)
  · unfold apX apM
    rw [gi_ne (a := 29) (by omega), gi_ne (a := 0) (by omega), l1, gi_si, gi_si]
    by_cases c : i = gi hM 0 13
    · rw [if_pos ⟨rfl, c⟩, if_pos ⟨rfl, c⟩]
      exact ⟨rfl, hv⟩
    · rw [if_neg (fun z => c z.2), if_neg (fun z => c z.2)]
      exact l4 i i0 i1
  · rw [q _ _ (by decide) (by decide), p _ _ (by omega) (by decide)]; exact b2
  · rw [q _ _ (by decide) (by decide), p _ _ (by omega) (by decide)]; exact b3
  · rw [q _ _ (by decide) (by decide), p _ _ (by omega) (by decide)]; exact b4
  · rw [q _ _ (by decide) (by decide), p _ _ (by omega) (by decide)]; exact b5
  · simp only [q 14 _ (by decide) (by decide), p 1 _ (Or.inl (by decide)) (by decide)]; exact b6
  · rw [p _ _ (by omega) (by decide)]
    exact b7 k k0 k1
theorem RR.app4 {n : Nat} {hX hM : AH} (R : RR n hX hM) {x : Int} (hx : R32 x) (h4 : gi hM 0 13 + 4 ≤ 400) : RR n (a4X hX x) (a4M hM x) := by
  unfold a4X a4M
  exact (((R.app (byte_eq hx (by omega)).2 (by omega)).app (byte_eq hx (by omega)).2 (by rw [apM_len]; omega)).app (byte_eq hx (by omega)).2 (by rw [apM_len, apM_len]; omega)).app (byte_eq hx (by omega)).2 (by rw [apM_len, apM_len, apM_len]; omega)
theorem RR.up {n : Nat} {hX hM : AH} (R : RR n hX hM) (hn : n < 512) : RR (n + 1) hX hM := (R.s.up hn).r R.st
theorem q_feed {n dx dm : Nat} {hX hM : AH} {Q : Option AV → AH → Prop} {x1 x2 x3 x4 x5 : Int} (R : RR n hX hM) (hn : n < 512) (hQ : ∀ rx hX', WM GM (dm + 1) 0 mX8_feed [vR (some 0), vI x1, vI x2, vI x3, vI x4, vI x5] hM (fun rm hM' => RQ n rx rm hX' hM') → Q rx hX') : WM GX (dx + 1) 0 mX7_feed [vR (some 0), vI x1, vI x2, vI x3, vI x4, vI x5] hX Q := by
  have l := R.2.2.2.2.1.1
  have S : RR n hX (si hM 0 0 0) := (R.s.same SameX.rfl' (km0 (h := hM)).1).r (by rw [gi_ne (by omega)]; exact R.st)
  have l2 : gi (si hM 0 0 0) 0 13 = gi hM 0 13 := gi_ne (by omega)
  refine w_X7_feed fun r1 r2 r3 r4 r5 => ⟨by omega, fun c => ?_, fun c => ?_⟩
  · refine c_X4_append r1 (by omega) ⟨rfl, c_X4_append r2 (by rw [a4X_len]; omega) ⟨rfl, c_X4_append r3 (by rw [a4X_len, a4X_len]; omega) ⟨rfl, c_X4_append r4 (by rw [a4X_len, a4X_len, a4X_len]; omega) ⟨rfl, c_X4_append r5 (by rw [a4X_len, a4X_len, a4X_len, a4X_len]; omega) ⟨rfl, ?_⟩⟩⟩⟩⟩
    refine hQ _ _ (w_X8_feed fun _ _ _ _ _ h1 e1 => ⟨by omega, fun _ => ?_, fun z => by omega⟩)
    subst e1
    refine c_X8_four (by omega) ⟨rfl, c_X8_four (by rw [a4M_len]; omega) ⟨rfl, c_X8_four (by rw [a4M_len, a4M_len]; omega) ⟨rfl, c_X8_four (by rw [a4M_len, a4M_len, a4M_len]; omega) ⟨rfl, c_X8_four (by rw [a4M_len, a4M_len, a4M_len, a4M_len]; omega) ⟨rfl, ?_⟩⟩⟩⟩⟩
    have T := ((((S.app4 r1 (by omega)).app4 r2 (by rw [a4M_len]; omega)).app4 r3 (by rw [a4M_len, a4M_len]; omega)).app4 r4 (by rw [a4M_len, a4M_len, a4M_len]; omega)).app4 r5 (by rw [a4M_len, a4M_len, a4M_len, a4M_len]; omega)
    exact RQ.mk T.2.2.2.2.1.1.1 (T.up hn)
  · refine hQ _ _ (w_X8_feed fun _ _ _ _ _ h1 e1 => ⟨by omega, fun z => by omega, fun _ => ?_⟩)
    subst e1
    exact RQ.mk rfl (S.up hn)
