/-! fleet, in the class -/
section FX
variable {d b : Nat} {Q : Option AV → AH → Prop} {r : Int → Int} {f : Int}
/-- what a set catches, over eight doors -/
theorem sum8 (h : 0 ≤ r 1 ∧ r 1 ≤ 8) {s : Int} (hs : 0 ≤ s ∧ s < 256) (z : zand s (zxor (setR r) (-1)) = 0) : sumZ (fun e => if zand (zshr s e) 1 = 1 then catR r e else 0) 8 0 = sumR r s := by
  have e := sumZ_app (fun e => if zand (zshr s e) 1 = 1 then catR r e else 0) (8 - (r 1).toNat) (r 1).toNat 0
  rw [show (r 1).toNat + (8 - (r 1).toNat) = 8 by omega] at e
  rw [e, sumZ_z (8 - (r 1).toNat)]
  · rw [Int.add_zero]
    rfl
  · intro j j0 j1
    refine if_neg (fun w => ?_)
    have := sub_rdy h hs z (d := j) (by omega) w
    omega
theorem lp_flX3 {h : AH} (hr : 0 ≤ r 1 ∧ r 1 ≤ 8) {R y5 s : Int} (hs : 0 ≤ s ∧ s < 256) (z : zand s (zxor (setR r) (-1)) = 0) (hc : ∀ e, 0 ≤ e → e < r 1 → rdyR r e → gi h 48 e = catR r e)
    (k : (sumR r s < f → R32 (s + 1) ∧ Lp_X2_fewestFor_77 d b Q f R y5 (s + 1) h) ∧ (¬ sumR r s < f → R32 (s + 1) ∧ Lp_X2_fewestFor_77 d b Q f R s (s + 1) h)) :
    ∀ (n : Nat) (i a : Int), 0 ≤ i → i + n = 8 → a + sumZ (fun e => if zand (zshr s e) 1 = 1 then catR r e else 0) n i = sumR r s → 0 ≤ a ∧ a ≤ 99 * i → Lp_X2_fewestFor_126 d b Q f R y5 s a i h
  | 0, i, a, i0, e, ha, hb => by
    rw [sumZ_0, Int.add_zero] at ha
    subst ha
    exact l_X2_fewestFor_126 ⟨fun _ => k, fun w => absurd (by omega) w⟩
  | n + 1, i, a, i0, e, ha, hb => by
    rw [sumZ_s] at ha
    have cr := catR_R r i
    refine l_X2_fewestFor_126 ⟨fun w => by omega, fun _ => ⟨fun w => ⟨by omega, ?_⟩, fun w => ⟨by omega, ?_⟩⟩⟩
    · rw [if_pos w] at ha
      have q := sub_rdy hr hs z (d := i) (by omega) w
      rw [hc i i0 q.1 q.2]
      exact ⟨by omega, by omega, lp_flX3 hr hs z hc k n (i + 1) _ (by omega) (by omega) (by omega) (by omega)⟩
    · rw [if_neg w] at ha
      exact lp_flX3 hr hs z hc k n (i + 1) _ (by omega) (by omega) (by omega) (by omega)
theorem lp_flX2 {h0 h : AH} (hr : 0 ≤ r 1 ∧ r 1 ≤ 8) (K : KX h0 h) (hc : ∀ e, 0 ≤ e → e < r 1 → rdyR r e → gi h 48 e = catR r e) (k : ∀ v h', KX h0 h' → fBest r f v → Q (some (vI v)) h') :
    ∀ (n : Nat) (s v : Int), 0 ≤ s → s + n = 256 → ((v = -1 ∧ ∀ t, 0 ≤ t → t < s → ¬ fOk r f t) ∨ (0 ≤ v ∧ v < s ∧ fOk r f v ∧ ∀ t, 0 ≤ t → t < s → fOk r f t → pcI v < pcI t ∨ (pcI v = pcI t ∧ v ≤ t))) → Lp_X2_fewestFor_77 d b Q f (setR r) v s h
  | 0, s, v, s0, e, hv => by
    refine l_X2_fewestFor_77 ⟨fun _ => k v h K ?_, fun w => absurd (by omega) w⟩
    rw [show s = 256 by omega] at hv
    exact hv
  | n + 1, s, v, s0, e, hv => by
    have skip : ¬ (fOk r f s ∧ (v = -1 ∨ pcI s < pcI v)) → Lp_X2_fewestFor_77 d b Q f (setR r) v (s + 1) h := fun w => by
      refine lp_flX2 hr K hc k n (s + 1) v (by omega) (by omega) ?_
      rcases hv with ⟨v1, v2⟩ | ⟨v1, v2, v3, v4⟩
      · refine Or.inl ⟨v1, fun t t0 t1 => ?_⟩
        by_cases q : t = s
        · rw [q]
          exact fun y => w ⟨y, Or.inl v1⟩
        · exact v2 t t0 (by omega)
      · refine Or.inr ⟨v1, by omega, v3, fun t t0 t1 tk => ?_⟩
        by_cases q : t = s
        · rw [q] at tk ⊢
          have : ¬ pcI s < pcI v := fun y => w ⟨tk, Or.inr y⟩
          omega
        · exact v4 t t0 (by omega) tk
    have take : fOk r f s → (v = -1 ∨ pcI s < pcI v) → Lp_X2_fewestFor_77 d b Q f (setR r) s (s + 1) h := fun w u => by
      refine lp_flX2 hr K hc k n (s + 1) s (by omega) (by omega) (Or.inr ⟨s0, by omega, w, fun t t0 t1 tk => ?_⟩)
      by_cases q : t = s
      · rw [q]
        exact Or.inr ⟨rfl, Int.le_refl _⟩
      · rcases hv with ⟨v1, v2⟩ | ⟨v1, v2, v3, v4⟩
        · exact absurd tk (v2 t t0 (by omega))
        · have := v4 t t0 (by omega) tk
          omega
    have go : zand s (zxor (setR r) (-1)) = 0 → (v = -1 ∨ pcI s < pcI v) → Lp_X2_fewestFor_126 d b Q f (setR r) v s 0 0 h := fun z u =>
      lp_flX3 hr ⟨s0, by omega⟩ z hc ⟨fun w => ⟨by omega, skip (fun q => by have := q.1.2; omega)⟩, fun w => ⟨by omega, take ⟨z, by omega⟩ u⟩⟩ 8 0 0 (by decide) (by decide) (by rw [Int.zero_add]; exact sum8 hr ⟨s0, by omega⟩ z) (by decide)
    refine l_X2_fewestFor_77 ⟨fun w => by omega, fun _ => ⟨fun z => ⟨fun w => go z (Or.inl w), fun w => ⟨by omega, ?_, fun u => go z (Or.inr u), fun u => ⟨by omega, skip (fun q => by have := q.2; omega)⟩⟩⟩, fun z => ⟨by omega, skip (fun q => z q.1.1)⟩⟩⟩
    omega
theorem lp_flX1 {h0 : AH} (A0 : RA h0 1 r) (k : ∀ v h', KX h0 h' → fBest r f v → Q (some (vI v)) h') :
    ∀ (n : Nat) (i s : Int) (h : AH), 0 ≤ i → i + n = r 1 → KX h0 h → (∀ e, 0 ≤ e → e < i → rdyR r e → gi h 48 e = catR r e) → accB (fun e => b2i (rdyR r e)) n i s = setR r → Lp_X2_fewestFor_6 d b Q f s i h
  | 0, i, s, h, i0, e, K, hc, hs => by
    have I1 := A0.2.2.1
    have A : RA h 1 r := A0.sx (by decide) K.1
    have e1 := A.1.doors
    have hs' : s = setR r := hs
    subst hs'
    refine l_X2_fewestFor_6 ⟨fun _ => ?_, fun w => absurd (by omega) w⟩
    exact lp_flX2 (by omega) K (fun e e0 e1 => hc e e0 (by omega)) k 256 0 (-1) (by decide) (by decide) (Or.inl ⟨rfl, fun t t0 t1 => by omega⟩)
  | n + 1, i, s, h, i0, e, K, hc, hs => by
    have I1 := A0.2.2.1
    have A : RA h 1 r := A0.sx (by decide) K.1
    have e1 := A.1.doors
    have eh := A.1.hangs (d := i) (by omega)
    have vi := A.2.2.2.1 i i0 (by omega)
    have w1 : r (7 + i) = -1 ∨ r (23 + i) = 0 := by omega
    clear vi
    rw [accB_s] at hs
    refine l_X2_fewestFor_6 ⟨fun w => by omega, fun _ => ⟨by omega, ?_⟩⟩
    rw [show gi h 7 i = r (7 + i) from eh.symm]
    have no : ∀ h', JX h h' → ¬ rdyR r i → Lp_X2_fewestFor_6 d b Q f s (i + 1) h' := fun h' J w => by
      rw [b1_f w] at hs
      refine lp_flX1 A0 k n (i + 1) s h' (by omega) (by omega) (K.trans J.kx) (fun e e0 e1 er => ?_) hs
      by_cases q : e = i
      · rw [q] at er
        exact absurd er w
      · rw [J.1 _ _ (by decide) (by decide)]
        exact hc e e0 (by omega) er
    refine ⟨fun z => ⟨by omega, no h JX.rfl' (fun w => w.1 z)⟩, fun z => ?_⟩
    refine c_X1_isBarred (by decide) A (by omega) (fun h1 J1 => ⟨_, rfl, fun w => ?_, fun w => ⟨by omega, no h1 J1 (fun q => (b2i_n0.mp w).2 |> q.2)⟩⟩)
    have rd : rdyR r i := ⟨z, fun q => b2i_0.mp w ⟨z, q⟩⟩
    refine c_X1_catchOf (by decide) (A.jx (by decide) J1) (by omega) (by decide) (by decide) (fun h2 J2 => ⟨_, rfl, by omega, fun h3 e3 => ⟨by omega, ?_⟩⟩)
    rw [b1_t rd] at hs
    refine lp_flX1 A0 k n (i + 1) _ h3 (by omega) (by omega) ?_ (fun e e0 e1 er => ?_) hs
    · rw [e3]
      exact (K.trans (J1.trans J2).kx).si (by unfold coreX; omega)
    · rw [e3, gi_si]
      by_cases q : e = i
      · rw [if_pos ⟨rfl, q⟩, q]
        unfold catR
        rw [if_pos rd, w1.resolve_left z]
      · rw [if_neg (fun y => q y.2), (J1.trans J2).1 _ _ (by decide) (by decide)]
        exact hc e e0 (by omega) er
end FX
theorem cX_fleet {d b : Nat} {Q : Option AV → AH → Prop} {h : AH} {r : Int → Int} {x1 x2 : Int} (A : RA h 1 r) (k : ∀ v h', KX h h' → ((0 ≤ x1 ∧ x1 ≤ 9999 ∧ 0 ≤ x2 ∧ x2 ≤ 1 ∧ ∃ s, fBest r x1 s ∧ v = if s = -1 ∨ x2 = 1 then s else pcI s) ∨ (¬ (0 ≤ x1 ∧ x1 ≤ 9999 ∧ 0 ≤ x2 ∧ x2 ≤ 1) ∧ v = -1)) → Q (some (vI v)) h') : WM GX (d + 5) b mX7_fleet [vR (some 0), vI x1, vI x2] h Q := by
  have I1 := A.2.2.1
  refine w_X7_fleet ?_
  intro _ _
  refine ⟨fun c => k _ h KX.rfl' (Or.inr ⟨by omega, rfl⟩), fun c => ⟨fun c1 => k _ h KX.rfl' (Or.inr ⟨by omega, rfl⟩), fun c1 => ⟨fun c2 => k _ h KX.rfl' (Or.inr ⟨by omega, rfl⟩), fun c2 => ⟨fun c3 => ?_, fun c3 => k _ h KX.rfl' (Or.inr ⟨by omega, rfl⟩)⟩⟩⟩⟩
  refine w_X2_fewestFor (lp_flX1 A (fun v h' K g => ⟨v, rfl, fun z => k _ h' K (Or.inl ⟨by omega, by omega, by omega, c3, v, g, by rw [if_pos (Or.inl z)]⟩), fun z => ⟨fun w => k _ h' K (Or.inl ⟨by omega, by omega, by omega, c3, v, g, by rw [if_pos (Or.inr w)]⟩), fun w => ⟨?_, k _ h' K (Or.inl ⟨by omega, by omega, by omega, c3, v, g, by rw [if_neg (fun q => q.elim z w)]⟩)⟩⟩⟩) (r 1).toNat 0 0 h (by decide) (by omega) KX.rfl' (fun e e0 e1 => by omega) rfl)
  rcases g with ⟨g1, -⟩ | ⟨g1, g2, -⟩
  · exact absurd g1 z
  · omega
/-! fleet, in the reference -/
section FM
variable {d b : Nat} {Q : Option AV → AH → Prop} {r : Int → Int} {f w : Int}
theorem lp_flM3 {h : AH} (er : gi h 2 = r) (hr : 0 ≤ r 1 ∧ r 1 ≤ 8) {R few its s : Int} (hs : 0 ≤ s ∧ s < 256) (hc : ∀ e, 0 ≤ e → e < r 1 → gi h 21 e = catR r e)
    (k : ∀ y, y = sumR r s → (zand s (zxor R (-1)) = 0 → (y < f → R32 (s + 1) ∧ Lp_X8_fleet_134 d b Q f w R few its (s + 1) h) ∧ (¬(y < f) → ((0 : Int) ≤ s ∧ (s : Int) < 33554432) ∧ (few ≤ pcI s → R32 (s + 1) ∧ Lp_X8_fleet_134 d b Q f w R few its (s + 1) h) ∧ (¬(few ≤ pcI s) → ((0 : Int) ≤ s ∧ (s : Int) < 33554432) ∧ R32 (s + 1) ∧ Lp_X8_fleet_134 d b Q f w R (pcI s) s (s + 1) h))) ∧ (¬(zand s (zxor R (-1)) = 0) → R32 (s + 1) ∧ Lp_X8_fleet_134 d b Q f w R few its (s + 1) h)) :
    ∀ (n : Nat) (i a : Int), 0 ≤ i → i + n = r 1 → a + sumZ (fun e => if zand (zshr s e) 1 = 1 then catR r e else 0) n i = sumR r s → 0 ≤ a ∧ a ≤ 99 * i → Lp_X8_fleet_153 d b Q f w R few its s a i h
  | 0, i, a, i0, e, ha, hb => by
    have e1 : gi h 2 1 = r 1 := by rw [er]
    rw [sumZ_0, Int.add_zero] at ha
    exact l_X8_fleet_153 ⟨fun _ => k a ha, fun q => absurd (by omega) q⟩
  | n + 1, i, a, i0, e, ha, hb => by
    have e1 : gi h 2 1 = r 1 := by rw [er]
    rw [sumZ_s] at ha
    have cr := catR_R r i
    refine l_X8_fleet_153 ⟨fun q => by omega, fun _ => ⟨fun q => ⟨by omega, ?_⟩, fun q => ⟨by omega, by omega, ?_⟩⟩⟩
    · rw [if_pos q] at ha
      rw [hc i i0 (by omega)]
      exact ⟨by omega, by omega, lp_flM3 er hr hs hc k n (i + 1) _ (by omega) (by omega) (by omega) (by omega)⟩
    · rw [if_neg q] at ha
      exact lp_flM3 er hr hs hc k n (i + 1) _ (by omega) (by omega) (by omega) (by omega)
theorem lp_flM2 {h0 h : AH} (er : gi h 2 = r) (hr : 0 ≤ r 1 ∧ r 1 ≤ 8) (K : KM h0 h) (hc : ∀ e, 0 ≤ e → e < r 1 → gi h 21 e = catR r e) (k : ∀ v h', KM h0 h' → fBest r f v → Q (some (vI (if v = -1 then -1 else if w = 0 then pcI v else v))) h') :
    ∀ (n : Nat) (s few its : Int), 0 ≤ s → s + n = ((2 ^ (r 1).toNat : Nat) : Int) → ((few = 100000000 ∧ ∀ t, 0 ≤ t → t < s → ¬ fOk r f t) ∨ (few = pcI its ∧ 0 ≤ its ∧ its < s ∧ fOk r f its ∧ ∀ t, 0 ≤ t → t < s → fOk r f t → pcI its < pcI t ∨ (pcI its = pcI t ∧ its ≤ t))) → Lp_X8_fleet_134 d b Q f w (setR r) few its s h
  | 0, s, few, its, s0, e, hv => by
    have e1 : gi h 2 1 = r 1 := by rw [er]
    have p := pow_256 (n := (r 1).toNat) (by omega)
    have big : ∀ t, s ≤ t → t < 256 → ¬ fOk r f t := fun t t0 t1 q => sub_big hr ⟨by omega, t1⟩ q.1
    refine l_X8_fleet_134 ⟨fun _ => ?_, fun q => absurd (by rw [e1, zshl_1' (by omega)]; omega) q⟩
    rcases hv with ⟨v1, v2⟩ | ⟨v1, v2, v3, v4, v5⟩
    · have k0 := k (-1) h K (Or.inl ⟨rfl, fun t t0 t1 => by
        by_cases q : t < s
        · exact v2 t t0 q
        · exact big t (by omega) t1⟩)
      rw [if_pos rfl] at k0
      exact ⟨fun _ => k0, fun q => absurd v1 q⟩
    · have k0 := k its h K (Or.inr ⟨v2, by omega, v4, fun t t0 t1 tk => by
        by_cases q : t < s
        · exact v5 t t0 q tk
        · exact absurd tk (big t (by omega) t1)⟩)
      have pl := pcI_le its
      rw [if_neg (by omega)] at k0
      refine ⟨fun q => by omega, fun _ => ⟨fun q => ?_, fun q => ?_⟩⟩
      · rw [if_pos q] at k0
        rw [v1]
        exact k0
      · rw [if_neg q] at k0
        exact k0
  | n + 1, s, few, its, s0, e, hv => by
    have e1 : gi h 2 1 = r 1 := by rw [er]
    have p := pow_256 (n := (r 1).toNat) (by omega)
    have ps := pcI_le s
    have skip : ¬ (fOk r f s ∧ pcI s < few) → Lp_X8_fleet_134 d b Q f w (setR r) few its (s + 1) h := fun q => by
      refine lp_flM2 er hr K hc k n (s + 1) few its (by omega) (by omega) ?_
      rcases hv with ⟨v1, v2⟩ | ⟨v1, v2, v3, v4, v5⟩
      · refine Or.inl ⟨v1, fun t t0 t1 => ?_⟩
        by_cases u : t = s
        · rw [u]
          exact fun y => q ⟨y, by omega⟩
        · exact v2 t t0 (by omega)
      · refine Or.inr ⟨v1, v2, by omega, v4, fun t t0 t1 tk => ?_⟩
        by_cases u : t = s
        · rw [u] at tk ⊢
          have : ¬ pcI s < few := fun y => q ⟨tk, y⟩
          omega
        · exact v5 t t0 (by omega) tk
    have take : fOk r f s → pcI s < few → Lp_X8_fleet_134 d b Q f w (setR r) (pcI s) s (s + 1) h := fun q u => by
      refine lp_flM2 er hr K hc k n (s + 1) _ s (by omega) (by omega) (Or.inr ⟨rfl, s0, by omega, q, fun t t0 t1 tk => ?_⟩)
      by_cases y : t = s
      · rw [y]
        exact Or.inr ⟨rfl, Int.le_refl _⟩
      · rcases hv with ⟨v1, v2⟩ | ⟨v1, v2, v3, v4, v5⟩
        · exact absurd tk (v2 t t0 (by omega))
        · have := v5 t t0 (by omega) tk
          omega
    refine l_X8_fleet_134 ⟨fun q => by rw [e1, zshl_1' (by omega)] at q; omega, fun _ => ?_⟩
    refine lp_flM3 er hr ⟨s0, by omega⟩ hc (fun y ey => ⟨fun z => ⟨fun q => ⟨by omega, skip (fun u => by have := u.1.2; omega)⟩, fun q => ⟨by omega, fun u => ⟨by omega, skip (fun y => by have := y.2; omega)⟩, fun u => ⟨by omega, by omega, take ⟨z, by omega⟩ (by omega)⟩⟩⟩, fun z => ⟨by omega, skip (fun u => z u.1.1)⟩⟩) (r 1).toNat 0 0 (by decide) (by omega) (by rw [Int.zero_add]; rfl) (by decide)
theorem lp_flM1 {h0 : AH} (L : LawK h0) (er0 : gi h0 2 = r) (k : ∀ v h', KM h0 h' → fBest r f v → Q (some (vI (if v = -1 then -1 else if w = 0 then pcI v else v))) h') :
    ∀ (n : Nat) (i s : Int) (h : AH), 0 ≤ i → i + n = r 1 → KM h0 h → R32 s → (∀ e, 0 ≤ e → e < i → gi h 21 e = catR r e) → accB (fun e => b2i (rdyR r e)) n i s = setR r → Lp_X8_fleet_34 d b Q f w s i h
  | 0, i, s, h, i0, e, K, hR, hc, hs => by
    have er : gi h 2 = r := K.row.trans er0
    have I1 := L.2.1.1
    rw [er0] at I1
    have e1 : gi h 2 1 = r 1 := by rw [er]
    have hs' : s = setR r := hs
    subst hs'
    refine l_X8_fleet_34 ⟨fun _ => ?_, fun q => absurd (by omega) q⟩
    have p := pow_256 (n := (r 1).toNat) (by omega)
    exact lp_flM2 er (by omega) K (fun e e0 e1 => hc e e0 (by omega)) k (2 ^ (r 1).toNat) 0 _ 0 (by decide) (by omega) (Or.inl ⟨rfl, fun t t0 t1 => by omega⟩)
  | n + 1, i, s, h, i0, e, K, hR, hc, hs => by
    have er : gi h 2 = r := K.row.trans er0
    have I1 := L.2.1.1
    rw [er0] at I1
    have e1 : gi h 2 1 = r 1 := by rw [er]
    rw [accB_s] at hs
    have no : ∀ h' : AH, KM h h' → (∀ e, gi h' 21 e = gi h 21 e) → ¬ rdyR r i → Lp_X8_fleet_34 d b Q f w s (i + 1) (si h' 21 i 0) := fun h' K' g q => by
      rw [b1_f q] at hs
      refine lp_flM1 L er0 k n (i + 1) s _ (by omega) (by omega) ((K.trans K').si (by unfold coreM; omega)) hR (fun e e0 e1 => ?_) hs
      rw [gi_si]
      by_cases u : e = i
      · rw [if_pos ⟨rfl, u⟩, u]
        unfold catR
        rw [if_neg q]
      · rw [if_neg (fun y => u y.2), g]
        exact hc e e0 (by omega)
    refine l_X8_fleet_34 ⟨fun q => by omega, fun _ => ⟨by omega, by omega, ?_⟩⟩
    rw [zor_0 hR, er]
    refine ⟨fun z => ⟨by omega, fun h1 e1' => ⟨by omega, ?_⟩⟩, fun z => ?_⟩
    · rw [e1']
      exact no h KM.rfl' (fun _ => rfl) (fun q => q.1 z)
    · refine c_X8_isBarred (L.km K) (by rw [er]; omega) (fun h2 T2 => ?_)
      rw [er]
      have g2 : ∀ e, gi h2 21 e = gi h 21 e := fun e => T2.1 _ _ (by omega)
      have er2 : gi h2 2 = r := T2.row.trans er
      refine ⟨_, rfl, fun q => ?_, fun q => ⟨by omega, fun h3 e3 => ⟨by omega, ?_⟩⟩⟩
      · have rd : rdyR r i := ⟨z, b2i_0.mp q⟩
        refine c_X8_catches ((L.km K).tl T2) (by rw [er2]; omega) (by decide) (by decide) (by decide) (fun h4 T4 => ⟨_, rfl, by omega, fun h5 e5 => ⟨by omega, ?_⟩⟩)
        rw [b1_t rd] at hs
        refine lp_flM1 L er0 k n (i + 1) _ h5 (by omega) (by omega) ?_ (zor_R _ _) (fun e e0 e1 => ?_) hs
        · rw [e5]
          exact (K.trans (T2.trans T4).km).si (by unfold coreM; omega)
        · rw [e5, gi_si]
          by_cases u : e = i
          · rw [if_pos ⟨rfl, u⟩, u, er2]
            unfold catR
            rw [if_pos rd]
          · rw [if_neg (fun y => u y.2), (T2.trans T4).1 _ _ (by omega)]
            exact hc e e0 (by omega)
      · rw [e3]
        exact no h2 T2.km g2 (fun u => u.2 (b2i_n0.mp q))
end FM
theorem cM_fleet {d b : Nat} {Q : Option AV → AH → Prop} {h : AH} {x1 x2 : Int} (L : LawK h) (k : ∀ v h', KM h h' → ((0 ≤ x1 ∧ x1 ≤ 9999 ∧ 0 ≤ x2 ∧ x2 ≤ 1 ∧ ∃ s, fBest (gi h 2) x1 s ∧ v = if s = -1 ∨ x2 = 1 then s else pcI s) ∨ (¬ (0 ≤ x1 ∧ x1 ≤ 9999 ∧ 0 ≤ x2 ∧ x2 ≤ 1) ∧ v = -1)) → Q (some (vI v)) h') : WM GM (d + 6) b mX8_fleet [vR (some 0), vI x1, vI x2] h Q := by
  have I1 := L.2.1.1
  refine w_X8_fleet ?_
  intro _ _ h1 e1
  subst e1
  refine ⟨fun c => ⟨fun c1 => ?_, fun c1 => k _ _ km0 (Or.inr ⟨by omega, rfl⟩)⟩, fun c => k _ _ km0 (Or.inr ⟨by omega, rfl⟩)⟩
  refine lp_flM1 (L.km km0) m2f (fun v h' K g => k _ h' (km0.trans K) (Or.inl ⟨c.1, c.2, c1.1, c1.2, v, g, ?_⟩)) (gi h 2 1).toNat 0 0 _ (by decide) (by omega) KM.rfl' (by decide) (fun e e0 e1 => by omega) rfl
  by_cases z : v = -1
  · rw [if_pos z, if_pos (Or.inl z), z]
  · rw [if_neg z]
    by_cases q : x2 = 0
    · rw [if_pos q, if_neg (fun y => y.elim z (by omega))]
    · rw [if_neg q, if_pos (Or.inr (by omega))]
theorem q_fleet {n dx dm : Nat} {hX hM : AH} {Q : Option AV → AH → Prop} {x1 x2 : Int} (R : RR n hX hM) (hn : n < 512) (hQ : ∀ rx hX', WM GM (dm + 6) 0 mX8_fleet [vR (some 0), vI x1, vI x2] hM (fun rm hM' => RQ n rx rm hX' hM') → Q rx hX') : WM GX (dx + 5) 0 mX7_fleet [vR (some 0), vI x1, vI x2] hX Q := by
  refine cX_fleet R.1 (fun v _ K e => hQ _ _ (cM_fleet R.s.lawK (fun v' _ K' e' => RQ.mk ?_ (R.kk hn K K'))))
  rcases e with ⟨a1, a2, a3, a4, s, g, e⟩ | ⟨a1, e⟩
  · rcases e' with ⟨-, -, -, -, s', g', e'⟩ | ⟨b1, -⟩
    · rw [e, e', fBest_one g g']
    · omega
  · rcases e' with ⟨b1, b2, b3, b4, -⟩ | ⟨-, e'⟩
    · omega
    · rw [e, e']
