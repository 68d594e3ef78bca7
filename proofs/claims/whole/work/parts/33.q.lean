/-! guards -/
abbrev gOk (o s : Int) : Prop := zand o (zxor (zor (zor s (zshl s 1)) (zshr s 1)) (-1)) = 0
def gBest (N o s : Int) : Prop := gOk o s ∧ 0 ≤ s ∧ s < N ∧ ∀ t, 0 ≤ t → t < N → gOk o t → pcI s < pcI t ∨ (pcI s = pcI t ∧ s ≤ t)
theorem gBest_one {N o s t : Int} (a : gBest N o s) (b : gBest N o t) : s = t := by
  have h1 := a.2.2.2 t b.2.1 b.2.2.1 b.1
  have h2 := b.2.2.2 s a.2.1 a.2.2.1 a.1
  omega
theorem gFull : ∀ n : Nat, n < 9 → ∀ o : Nat, o < 2 ^ n → zand (o : Int) (zxor (zor (zor ((2 ^ n - 1 : Nat) : Int) (zshl ((2 ^ n - 1 : Nat) : Int) 1)) (zshr ((2 ^ n - 1 : Nat) : Int) 1)) (-1)) = 0 := by decide +kernel
theorem gOk_full {n : Nat} (hn : n < 9) {o : Int} (h0 : 0 ≤ o) (h1 : o < ((2 ^ n : Nat) : Int)) : gOk o (((2 ^ n : Nat) : Int) - 1) := by
  obtain ⟨a, rfl⟩ : ∃ a : Nat, o = a := ⟨o.toNat, by omega⟩
  have hp : 0 < 2 ^ n := Nat.two_pow_pos n
  have := gFull n hn a (by omega)
  rw [show ((2 ^ n - 1 : Nat) : Int) = ((2 ^ n : Nat) : Int) - 1 by omega] at this
  exact this
theorem lp_gX {d b : Nat} {Q : Option AV → AH → Prop} {h : AH} {w o N : Int} (hN : N ≤ 256) (k : ∀ s, gBest N o s → Q (some (vI (if w = 0 then pcI s else s))) h) : ∀ (n : Nat) (s : Int), (n : Int) ≤ s → s < N → gOk o s → (∀ t, (n : Int) ≤ t → t < N → gOk o t → pcI s < pcI t ∨ (pcI s = pcI t ∧ s ≤ t)) → Lp_X7_guards_67 d b Q w o s ((n : Int) - 1) h
  | 0, s, h1, h2, g, q => by
    have := k s ⟨g, by omega, h2, fun t t0 t1 => q t (by omega) t1⟩
    refine l_X7_guards_67 ⟨fun _ => ⟨fun z => ⟨by omega, ?_⟩, fun z => ?_⟩, fun c => absurd (by omega) c⟩
    · rwa [if_pos z] at this
    · rwa [if_neg z] at this
  | n + 1, s, h1, h2, g, q => by
    rw [show ((n + 1 : Nat) : Int) - 1 = n by omega]
    have np : (n : Int) + (-1) = n - 1 := by omega
    refine l_X7_guards_67 ⟨fun c => by omega, fun _ => ⟨fun c => ⟨by omega, by omega, fun c1 => ⟨by omega, ?_⟩, fun c1 => ⟨by omega, ?_⟩⟩, fun c => ⟨by omega, ?_⟩⟩⟩
    · rw [np]
      refine lp_gX hN k n s (by omega) h2 g (fun t t0 t1 tg => ?_)
      by_cases e : t = n
      · subst e
        exact Or.inl c1
      · exact q t (by omega) t1 tg
    · rw [np]
      refine lp_gX hN k n n (by omega) (by omega) c (fun t t0 t1 tg => ?_)
      by_cases e : t = n
      · subst e
        exact Or.inr ⟨rfl, Int.le_refl _⟩
      · have := q t (by omega) t1 tg
        omega
    · rw [np]
      refine lp_gX hN k n s (by omega) h2 g (fun t t0 t1 tg => ?_)
      by_cases e : t = n
      · subst e
        exact absurd tg c
      · exact q t (by omega) t1 tg
theorem lp_gM {d b : Nat} {Q : Option AV → AH → Prop} {h : AH} {w o N : Int} (hN : zshl 1 (gi h 2 0) = N) (h256 : N ≤ 256) (ex : ∃ t, 0 ≤ t ∧ t < N ∧ gOk o t) (k : ∀ s, gBest N o s → Q (some (vI (if w = 0 then pcI s else s))) h) : ∀ (n : Nat) (i few its : Int), 0 ≤ i → i + n = N → ((few = 100000000 ∧ ∀ t, 0 ≤ t → t < i → ¬ gOk o t) ∨ (few = pcI its ∧ gOk o its ∧ 0 ≤ its ∧ its < i ∧ ∀ t, 0 ≤ t → t < i → gOk o t → pcI its < pcI t ∨ (pcI its = pcI t ∧ its ≤ t))) → Lp_X8_guards_66 d b Q w o few its i h
  | 0, i, few, its, i0, e, q => by
    refine l_X8_guards_66 ⟨fun _ => ?_, fun c => absurd (by omega) c⟩
    rcases q with ⟨-, q2⟩ | ⟨q1, q2, q3, q4, q5⟩
    · obtain ⟨t, t0, t1, t2⟩ := ex
      exact absurd t2 (q2 t t0 (by omega))
    · have := k its ⟨q2, q3, by omega, fun t t0 t1 => q5 t t0 (by omega)⟩
      rw [q1]
      exact ⟨fun z => by rwa [if_pos z] at this, fun z => by rwa [if_neg z] at this⟩
  | n + 1, i, few, its, i0, e, q => by
    have pi := pcI_le i
    refine l_X8_guards_66 ⟨fun c => by omega, fun _ => ⟨fun c => ⟨by omega, fun c1 => ⟨by omega, ?_⟩, fun c1 => ⟨by omega, by omega, ?_⟩⟩, fun c => ⟨by omega, ?_⟩⟩⟩
    · refine lp_gM hN h256 ex k n (i + 1) few its (by omega) (by omega) ?_
      rcases q with ⟨q1, q2⟩ | ⟨q1, q2, q3, q4, q5⟩
      · omega
      · refine Or.inr ⟨q1, q2, q3, by omega, fun t t0 t1 tg => ?_⟩
        by_cases e : t = i
        · subst e
          omega
        · exact q5 t t0 (by omega) tg
    · refine lp_gM hN h256 ex k n (i + 1) _ i (by omega) (by omega) (Or.inr ⟨rfl, c, i0, by omega, fun t t0 t1 tg => ?_⟩)
      by_cases e : t = i
      · subst e
        exact Or.inr ⟨rfl, Int.le_refl _⟩
      · rcases q with ⟨q1, q2⟩ | ⟨q1, q2, q3, q4, q5⟩
        · exact absurd tg (q2 t t0 (by omega))
        · have := q5 t t0 (by omega) tg
          omega
    · refine lp_gM hN h256 ex k n (i + 1) few its (by omega) (by omega) ?_
      rcases q with ⟨q1, q2⟩ | ⟨q1, q2, q3, q4, q5⟩
      · refine Or.inl ⟨q1, fun t t0 t1 => ?_⟩
        by_cases e : t = i
        · rw [e]
          exact c
        · exact q2 t t0 (by omega)
      · refine Or.inr ⟨q1, q2, q3, by omega, fun t t0 t1 tg => ?_⟩
        by_cases e : t = i
        · subst e
          exact absurd tg c
        · exact q5 t t0 (by omega) tg
def openR (r : Int → Int) : Int := accB (fun i => b2i (dOf r i = -1)) (r 0).toNat 0 0
theorem openR_lt {r : Int → Int} (h : 0 ≤ r 0 ∧ r 0 ≤ 8) : 0 ≤ openR r ∧ openR r < ((2 ^ (r 0).toNat : Nat) : Int) := by
  have := accB_lt (f := fun i => b2i (dOf r i = -1)) (r 0).toNat 0 0 (by omega) (by decide) (by decide)
  rw [Nat.zero_add] at this
  exact this
theorem pow_256 {n : Nat} (h : n < 9) : 1 ≤ ((2 ^ n : Nat) : Int) ∧ ((2 ^ n : Nat) : Int) ≤ 256 := by
  have h2 : (2 : Nat) ^ n ≤ 2 ^ 8 := Nat.pow_le_pow_right (by decide) (by omega)
  have hp : 0 < 2 ^ n := Nat.two_pow_pos n
  omega
theorem zshl_1' {x : Int} (h : 0 ≤ x ∧ x ≤ 8) : zshl 1 x = ((2 ^ x.toNat : Nat) : Int) := by
  have := zshl_1 (n := x.toNat) (by omega)
  rwa [show ((x.toNat : Nat) : Int) = x by omega] at this
theorem lp_gOpX {d b : Nat} {Q : Option AV → AH → Prop} {h : AH} {r : Int → Int} {w : Int} (A : RA h 1 r) (k : ∀ s, gBest ((2 ^ (r 0).toNat : Nat) : Int) (openR r) s → Q (some (vI (if w = 0 then pcI s else s))) h) : ∀ (n : Nat) (i s : Int), 0 ≤ i → i + n = r 0 → accB (fun i => b2i (dOf r i = -1)) n i s = openR r → Lp_X7_guards_15 d b Q w s i h
  | 0, i, s, i0, e, q => by
    have I1 := A.2.2.1
    have e0 := A.1.houses
    have p := pow_256 (n := (r 0).toNat) (by omega)
    refine l_X7_guards_15 ⟨fun _ => ?_, fun c => absurd (by omega) c⟩
    rw [show gi h 1 0 = r 0 from e0.symm, zshl_1' (by omega)]
    have o := openR_lt (r := r) ⟨by omega, by omega⟩
    have f := gOk_full (n := (r 0).toNat) (by omega) o.1 o.2
    have q' : s = openR r := q
    subst q'
    refine ⟨by omega, by omega, ?_⟩
    obtain ⟨m, em⟩ : ∃ m : Nat, ((2 ^ (r 0).toNat : Nat) : Int) - 1 = m := ⟨(((2 ^ (r 0).toNat : Nat) : Int) - 1).toNat, by omega⟩
    rw [em] at f ⊢
    refine lp_gX (N := ((2 ^ (r 0).toNat : Nat) : Int)) p.2 k m m (Int.le_refl _) (by omega) f (fun t t0 t1 tg => ?_)
    have : t = m := by omega
    subst this
    exact Or.inr ⟨rfl, Int.le_refl _⟩
  | n + 1, i, s, i0, e, q => by
    have I1 := A.2.2.1
    have e0 := A.1.houses
    have e1 := A.1.doors
    rw [accB_s] at q
    refine l_X7_guards_15 ⟨fun c => by omega, fun _ => ⟨by omega, ?_⟩⟩
    rw [show dIn (gi h 7) i (gi h 1 2).toNat 0 = dOf r i from A.di i]
    refine ⟨fun c => ⟨by omega, ?_⟩, fun c => ⟨by omega, ?_⟩⟩
    · rw [b1_t (p := dOf r i = -1) c] at q
      exact lp_gOpX A k n (i + 1) _ (by omega) (by omega) q
    · rw [b1_f (p := dOf r i = -1) c] at q
      exact lp_gOpX A k n (i + 1) _ (by omega) (by omega) q
theorem cX_guards {d b : Nat} {Q : Option AV → AH → Prop} {h : AH} {r : Int → Int} {x1 : Int} (A : RA h 1 r) (k : ∀ v h', KX h h' → ((0 ≤ x1 ∧ x1 ≤ 1 ∧ ∃ s, gBest ((2 ^ (r 0).toNat : Nat) : Int) (openR r) s ∧ v = if x1 = 0 then pcI s else s) ∨ (¬ (0 ≤ x1 ∧ x1 ≤ 1) ∧ v = -1)) → Q (some (vI v)) h') : WM GX (d + 1) b mX7_guards [vR (some 0), vI x1] h Q := by
  have I1 := A.2.2.1
  refine w_X7_guards ?_
  intro _
  refine ⟨fun c => k _ h KX.rfl' (Or.inr ⟨by omega, rfl⟩), fun c => ⟨fun c1 => ?_, fun c1 => k _ h KX.rfl' (Or.inr ⟨by omega, rfl⟩)⟩⟩
  exact lp_gOpX A (fun s g => k _ h KX.rfl' (Or.inl ⟨by omega, c1, s, g, rfl⟩)) (r 0).toNat 0 0 (by decide) (by omega) rfl
theorem lp_gOpM {d b : Nat} {Q : Option AV → AH → Prop} {h : AH} {w : Int} (V : InvR (gi h 2)) (k : ∀ s, gBest ((2 ^ (gi h 2 0).toNat : Nat) : Int) (openR (gi h 2)) s → Q (some (vI (if w = 0 then pcI s else s))) h) : ∀ (n : Nat) (i s : Int), 0 ≤ i → i + n = gi h 2 0 → R32 s → accB (fun i => b2i (dOf (gi h 2) i = -1)) n i s = openR (gi h 2) → Lp_X8_guards_21 d b Q w s i h
  | 0, i, s, i0, e, hs, q => by
    have I1 := V.1
    have p := pow_256 (n := (gi h 2 0).toNat) (by omega)
    have o := openR_lt (r := gi h 2) ⟨by omega, by omega⟩
    have f := gOk_full (n := (gi h 2 0).toNat) (by omega) o.1 o.2
    have q' : s = openR (gi h 2) := q
    subst q'
    refine l_X8_guards_21 ⟨fun _ => ?_, fun c => absurd (by omega) c⟩
    exact lp_gM (zshl_1' (by omega)) p.2 ⟨_, by omega, by omega, f⟩ k (((2 ^ (gi h 2 0).toNat : Nat) : Int)).toNat 0 _ 0 (by decide) (by omega) (Or.inl ⟨rfl, fun t t0 t1 => by omega⟩)
  | n + 1, i, s, i0, e, hs, q => by
    have I1 := V.1
    rw [accB_s] at q
    refine l_X8_guards_21 ⟨fun c => by omega, fun _ => ⟨V, i0, fun c => ⟨by omega, ?_⟩, fun c => ⟨by omega, ?_⟩⟩⟩
    · rw [b1_t (p := dOf (gi h 2) i = -1) c] at q
      exact lp_gOpM V k n (i + 1) _ (by omega) (by omega) (zor_R _ _) q
    · rw [b1_f (p := dOf (gi h 2) i = -1) c] at q
      rw [zor_0 hs]
      exact lp_gOpM V k n (i + 1) _ (by omega) (by omega) hs q
theorem cM_guards {d b : Nat} {Q : Option AV → AH → Prop} {h : AH} {x1 : Int} (L : LawK h) (k : ∀ v h', KM h h' → ((0 ≤ x1 ∧ x1 ≤ 1 ∧ ∃ s, gBest ((2 ^ (gi h 2 0).toNat : Nat) : Int) (openR (gi h 2)) s ∧ v = if x1 = 0 then pcI s else s) ∨ (¬ (0 ≤ x1 ∧ x1 ≤ 1) ∧ v = -1)) → Q (some (vI v)) h') : WM GM (d + 1) b mX8_guards [vR (some 0), vI x1] h Q := by
  have I1 := L.2.1.1
  refine w_X8_guards ?_
  intro _ h1 e1
  subst e1
  refine ⟨fun c => ?_, fun c => k _ _ km0 (Or.inr ⟨c, rfl⟩)⟩
  refine lp_gOpM (by rw [m2f]; exact L.2.1) (fun s g => ?_) (gi h 2 0).toNat 0 0 (by decide) (by rw [m2]; omega) (by decide) (by rw [m2f]; rfl)
  rw [m2f] at g
  exact k _ _ km0 (Or.inl ⟨c.1, c.2, s, g, rfl⟩)
theorem q_guards {n dx dm : Nat} {hX hM : AH} {Q : Option AV → AH → Prop} {x1 : Int} (R : RR n hX hM) (hn : n < 512) (hQ : ∀ rx hX', WM GM (dm + 1) 0 mX8_guards [vR (some 0), vI x1] hM (fun rm hM' => RQ n rx rm hX' hM') → Q rx hX') : WM GX (dx + 1) 0 mX7_guards [vR (some 0), vI x1] hX Q := by
  refine cX_guards R.1 (fun v _ K e => hQ _ _ (cM_guards R.s.lawK (fun v' _ K' e' => RQ.mk ?_ (R.kk hn K K'))))
  rcases e with ⟨a1, a2, s, g, e⟩ | ⟨a1, e⟩
  · rcases e' with ⟨-, -, s', g', e'⟩ | ⟨b1, -⟩
    · rw [e, e', gBest_one g g']
    · omega
  · rcases e' with ⟨b1, b2, -⟩ | ⟨-, e'⟩
    · omega
    · rw [e, e']
/-! drawn -/
theorem q_drawn {n dx dm : Nat} {hX hM : AH} {Q : Option AV → AH → Prop} {x1 x2 : Int} (R : RR n hX hM) (hn : n < 512) (hQ : ∀ rx hX', WM GM (dm + 1) 0 mX8_drawn [vR (some 0), vI x1, vI x2] hM (fun rm hM' => RQ n rx rm hX' hM') → Q rx hX') : WM GX (dx + 1) 0 mX7_drawn [vR (some 0), vI x1, vI x2] hX Q := by
  have S := R.2.2.2.1.1
  have fin : ∀ v m : Int, v = m → RQ n (some (vI v)) (some (vI m)) hX (si hM 0 0 0) := fun v m e => RQ.mk e (R.kk hn KX.rfl' km0)
  have M : ∀ v : Int, ((gi hM 0 57 = -1 ∧ v = -1) ∨ (gi hM 0 57 ≠ -1 ∧ 0 ≤ gi hM 0 57 ∧ gi hM 0 57 ≤ 8 ∧ ((x2 = 2 ∧ 0 ≤ x1 ∧ x1 < 25 ∧ v = gi hM 31 x1) ∨ ((x2 = 0 ∨ x2 = 1) ∧ 0 ≤ x1 ∧ x1 < gi hM 0 57 ∧ v = gi hM 30 (2 * x1 + x2)) ∨ (¬ (x2 = 2 ∧ 0 ≤ x1 ∧ x1 < 25) ∧ ¬ ((x2 = 0 ∨ x2 = 1) ∧ 0 ≤ x1 ∧ x1 < gi hM 0 57) ∧ v = -1)))) → WM GM (dm + 1) 0 mX8_drawn [vR (some 0), vI x1, vI x2] hM (fun rm hM' => RQ n (some (vI v)) rm hX hM') := fun v hv => by
    refine w_X8_drawn ?_
    intro r1 r2 h1 e1
    subst e1
    refine ⟨fun c => fin _ _ (by omega), fun c => ⟨fun c1 => ⟨fun c2 => ⟨fun c3 => ⟨fun _ => ⟨by omega, fin _ _ (by omega)⟩, fun z => absurd c2 z⟩, fun c3 => fin _ _ (by omega)⟩, fun c2 => ⟨by omega, fun c3 => ⟨fun z => absurd z c2, fun _ => ⟨by omega, by omega, by omega, fin _ _ (by omega)⟩⟩, fun c3 => fin _ _ (by omega)⟩⟩, fun c1 => fin _ _ (by omega)⟩⟩
  have go : ∀ v : Int, _ → Q (some (vI v)) hX := fun v hv => hQ _ _ (M v hv)
  refine w_X7_drawn ?_
  intro _ _
  rcases S with ⟨s1, s2⟩ | ⟨s1, s2, s3, s4, s5, s6⟩
  · exact ⟨fun _ => go _ (Or.inl ⟨s2, rfl⟩), fun c => absurd s1 c⟩
  · have nz : gi hM 0 57 ≠ -1 := by omega
    have non : ¬ (x2 = 2 ∧ 0 ≤ x1 ∧ x1 < 25) → ¬ ((x2 = 0 ∨ x2 = 1) ∧ 0 ≤ x1 ∧ x1 < gi hM 0 57) → Q (some (vI (-1))) hX := fun z1 z2 => go _ (Or.inr ⟨nz, s3, s4, Or.inr (Or.inr ⟨z1, z2, rfl⟩)⟩)
    have d0 : x2 = 0 → 0 ≤ x1 → x1 < gi hX 16 2 → Q (some (vI (gi hX 23 x1))) hX := fun z a b => go _ (Or.inr ⟨nz, s3, s4, Or.inr (Or.inl ⟨Or.inl z, a, by omega, by rw [z, Int.add_zero]; exact (s5 x1 a (by omega)).1.symm⟩)⟩)
    have d1 : x2 = 1 → 0 ≤ x1 → x1 < gi hX 16 2 → Q (some (vI (gi hX 24 x1))) hX := fun z a b => go _ (Or.inr ⟨nz, s3, s4, Or.inr (Or.inl ⟨Or.inr z, a, by omega, by rw [z]; exact (s5 x1 a (by omega)).2.symm⟩)⟩)
    have d2 : x2 = 2 → 0 ≤ x1 → x1 < 25 → Q (some (vI (gi hX 25 x1))) hX := fun z a b => go _ (Or.inr ⟨nz, s3, s4, Or.inl ⟨z, a, b, (s6 x1 a b).symm⟩⟩)
    clear M go hQ fin s5 s6
    refine ⟨fun c => by omega, fun _ => ⟨fun c0 => ⟨fun c => ⟨by omega, d0 c0 c.1 c.2⟩, fun c => ⟨fun z => by omega, fun _ => ⟨fun z => by omega, fun _ => non (by omega) (by omega)⟩⟩⟩, fun c0 => ⟨fun c1 => ⟨fun c => ⟨by omega, d1 c1 c.1 c.2⟩, fun c => ⟨fun z => by omega, fun _ => non (by omega) (by omega)⟩⟩, fun c1 => ⟨fun c2 => ⟨fun c => ⟨c, d2 c2 c.1 c.2⟩, fun c => non (by omega) (by omega)⟩, fun c2 => non (by omega) (by omega)⟩⟩⟩⟩
