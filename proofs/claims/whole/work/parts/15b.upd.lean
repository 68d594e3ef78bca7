/-- the relation, where the tape's length alone changed -/
theorem RR.tape {n : Nat} {hX hM : AH} (R : RR n hX hM) (hn : n < 512) {x : Int} (h0 : 0 ≤ x) (h1 : x ≤ 400) : RR (n + 1) (si hX 29 1 x) (si (si hM 0 0 0) 0 13 x) := by
  obtain ⟨a1, a2, a3, a4, ⟨b1, b2, b3, b4, b5, b6, b7, b8⟩, a6, a7⟩ := R
  have q : ∀ {a : Nat} (k : Int), a ≠ 29 → gi (si hX 29 1 x) a k = gi hX a k := fun k z => by rw [gi_o z]
  have p : ∀ {a : Nat} (k : Int), (a ≠ 0 ∨ (k ≠ 0 ∧ k ≠ 13)) → gi (si (si hM 0 0 0) 0 13 x) a k = gi hM a k := fun k z => by
    rw [gi_si, if_neg (by omega), gi_si, if_neg (by omega)]
  have d : DynX hX (si hX 29 1 x) := DynX.rfl'.si (by decide)
  have e2 : gi (si (si hM 0 0 0) 0 13 x) 2 = gi hM 2 := funext fun k => p k (by omega)
  refine ⟨?_, a2.to (q _ (by decide)) (fun k => q _ (by decide)) (p _ (by omega)) (fun k => p _ (by omega)) (fun k => p _ (by omega)) (p _ (by omega)) (fun u z => by rw [e2]; exact z),
    a3.to (fun k => q _ (by decide)) (fun q' a b k => q _ (by omega)) d (fun _ _ _ _ => rfl) (fun k => p _ (by omega)) (fun k => p _ (by omega)),
    a4.to (q _ (by decide)) (fun q' a b k => q _ (by omega)) (p _ (by omega)) (fun k => p _ (by omega)) (fun k => p _ (by omega)),
    ⟨⟨by rw [gi_eq, gi_eq], by rw [gi_eq]; exact h0, by rw [gi_eq]; exact h1, fun i i0 i1 => ?_⟩, ?_, ?_, ?_, ?_, ?_, fun k k0 k1 => ?_, by omega⟩, a6.to (p _ (by omega)) (fun _ _ _ => rfl), a7⟩
  · rw [e2]
    exact a1.to (fun c hc k => q _ (by omega)) d (fun _ => rfl)
  · rw [q _ (by decide), p _ (by omega)]
    exact b1.2.2.2 i i0 i1
  · rw [q _ (by decide), p _ (by omega)]; exact b2
  · rw [q _ (by decide), p _ (by omega)]; exact b3
  · rw [q _ (by decide), p _ (by omega)]; exact b4
  · rw [q _ (by decide), p _ (by omega)]; exact b5
  · simp only [q _ (show (50 : Nat) ≠ 29 by decide), p _ (show (1 : Nat) ≠ 0 ∨ _ from Or.inl (by decide))]; exact b6
  · rw [p _ (by omega)]
    have := b7 k k0 k1
    omega

theorem m2 {h : AH} {k v j : Int} : gi (si h 0 k v) 2 j = gi h 2 j := gi_no (by decide)
theorem m2f {h : AH} {k v : Int} : gi (si h 0 k v) 2 = gi h 2 := gi_o (by decide)

theorem RRs.house {n : Nat} {hX hM : AH} (S : RRs n hX hM) {s : Int} (h8 : gi hM 2 0 < 8) (hs : 1 ≤ s ∧ s ≤ 9) : RRs n (si (si hX 2 (gi hX 1 0) s) 1 0 (gi hX 1 0 + 1)) (si (si (si hM 0 0 0) 2 (64 + gi hM 2 0) s) 2 0 (gi hM 2 0 + 1)) := by
  have I := S.1.1
  have V := S.1.2.2
  have V1 := V.1
  have e0 := I.houses
  have er : gi (si (si (si hM 0 0 0) 2 (64 + gi hM 2 0) s) 2 0 (gi hM 2 0 + 1)) 2 = up1 (up1 (gi hM 2) (64 + gi hM 2 0) s) 0 (gi hM 2 0 + 1) := by rw [gi_self, gi_self, gi_o (by decide)]
  refine S.isle ⟨?_, ?_, ?_⟩ ((SameXe.rfl'.si ⟨by decide, fun _ => Or.inl (by decide)⟩).si ⟨by decide, fun _ => Or.inl (by decide)⟩) (((SameMe.rfl'.si (by unfold coreM eM1; omega)).si (by unfold coreM eM1; omega)).si (by unfold coreM eM1; omega)) (Or.inl ⟨?_, ?_, ?_, fun u z => ?_⟩)
  · rw [er, e0]
    rw [e0] at V1 h8
    refine (I.set (k := 64 + gi hX 1 0) (by unfold okP; omega) ?_ ?_).set (k := 0) (by unfold okP; omega) rfl rfl
    · rw [show la (64 + gi hX 1 0) = 1 by unfold la; rw [if_neg (by omega), if_neg (by omega), if_neg (by omega), if_neg (by omega), if_neg (by omega), if_pos (by omega)]]
    · rw [show lb (64 + gi hX 1 0) = gi hX 1 0 by unfold lb; rw [if_neg (by omega), if_neg (by omega), if_neg (by omega), if_neg (by omega), if_neg (by omega), if_pos (by omega)]; omega]
  · rw [er]
    exact (S.1.2.1.up (DynX.rfl'.si (by decide)) (fun _ => rfl) (by omega)).up (DynX.rfl'.si (by decide)) (fun _ => rfl) (by omega)
  · rw [er]; exact V.house h8 hs
  · rw [gi_no (by decide), gi_no (by decide)]
  · rw [gi_no (by decide), gi_no (by decide), gi_nk (by decide)]
  · rw [er, up1_ne (by decide), up1_ne (by omega)]
  · rw [er, backR_up (by omega), backR_up (by omega)]
    have := z.house (s := s) (by rw [backR_at (by omega)]; exact h8) hs
    rwa [backR_at (by omega)] at this
theorem RRs.foe {n : Nat} {hX hM : AH} (S : RRs n hX hM) {s : Int} (h8 : gi hM 2 2 < 8) (hs : 1 ≤ s ∧ s ≤ 9) : RRs n (si (si hX 12 (gi hX 1 12) s) 1 12 (gi hX 1 12 + 1)) (si (si (si hM 0 0 0) 2 (129 + gi hM 2 2) s) 2 2 (gi hM 2 2 + 1)) := by
  have I := S.1.1
  have V := S.1.2.2
  have V1 := V.1
  have e0 := I.foes
  have er : gi (si (si (si hM 0 0 0) 2 (129 + gi hM 2 2) s) 2 2 (gi hM 2 2 + 1)) 2 = up1 (up1 (gi hM 2) (129 + gi hM 2 2) s) 2 (gi hM 2 2 + 1) := by rw [gi_self, gi_self, gi_o (by decide)]
  refine S.isle ⟨?_, ?_, ?_⟩ ((SameXe.rfl'.si ⟨by decide, fun _ => Or.inl (by decide)⟩).si ⟨by decide, fun _ => Or.inl (by decide)⟩) (((SameMe.rfl'.si (by unfold coreM eM1; omega)).si (by unfold coreM eM1; omega)).si (by unfold coreM eM1; omega)) (Or.inl ⟨?_, ?_, ?_, fun u z => ?_⟩)
  · rw [er, e0]
    rw [e0] at V1 h8
    refine (I.set (k := 129 + gi hX 1 12) (by unfold okP; omega) ?_ ?_).set (k := 2) (by unfold okP; omega) rfl rfl
    · rw [show la (129 + gi hX 1 12) = 11 by unfold la; rw [if_neg (by omega), if_neg (by omega), if_neg (by omega), if_neg (by omega), if_neg (by omega), if_neg (by omega), if_neg (by omega), if_neg (by omega), if_neg (by omega), if_neg (by omega), if_neg (by omega)]]
    · rw [show lb (129 + gi hX 1 12) = gi hX 1 12 by unfold lb; rw [if_neg (by omega), if_neg (by omega), if_neg (by omega), if_neg (by omega), if_neg (by omega), if_neg (by omega), if_neg (by omega), if_neg (by omega), if_neg (by omega), if_neg (by omega), if_neg (by omega)]; omega]
  · rw [er]
    exact (S.1.2.1.up (DynX.rfl'.si (by decide)) (fun _ => rfl) (by omega)).up (DynX.rfl'.si (by decide)) (fun _ => rfl) (by omega)
  · rw [er]; exact V.foe h8 hs
  · rw [gi_no (by decide), gi_no (by decide)]
  · rw [gi_no (by decide), gi_no (by decide), gi_nk (by decide)]
  · rw [er, up1_ne (by decide), up1_ne (by omega)]
  · rw [er, backR_up (by omega), backR_up (by omega)]
    have := z.foe (s := s) (by rw [backR_at (by omega)]; exact h8) hs
    rwa [backR_at (by omega)] at this
/-- one number of the isle that is not told by a snapshot -/
theorem RRs.num {n : Nat} {hX hM : AH} (S : RRs n hX hM) {k i v : Int} (hk : k = 0 ∨ k = 1 ∨ k = 2 ∨ k = 4) (hi : i = lb k) (hv : ∀ r, InvR r → (∀ j, j < 5 → r j = gi hM 2 j) → InvR (up1 r k v)) : RRs n (si hX 1 i v) (si (si hM 0 0 0) 2 k v) := by
  have er : gi (si (si hM 0 0 0) 2 k v) 2 = up1 (gi hM 2) k v := by rw [gi_self, gi_o (by decide)]
  refine S.isle ⟨?_, ?_, ?_⟩ (SameXe.rfl'.si ⟨by decide, fun _ => Or.inl (by decide)⟩) ((SameMe.rfl'.si (by unfold coreM eM1; omega)).si (by unfold coreM eM1; omega)) (Or.inl ⟨?_, ?_, ?_, fun u z => ?_⟩)
  · rw [er]
    exact S.1.1.set (by unfold okP; omega) (by rw [show la k = 0 by unfold la; rw [if_pos (by omega)]]) hi
  · rw [er]
    exact S.1.2.1.up (DynX.rfl'.si (by decide)) (fun _ => rfl) (by omega)
  · rw [er]; exact hv _ S.1.2.2 (fun _ _ => rfl)
  · rw [gi_no (by decide)]
  · rw [gi_no (by decide), gi_nk (by decide)]
  · rw [er, up1_ne (by omega)]
  · rw [er, backR_up (by omega)]
    exact hv _ z (fun j hj => backR_at (by omega))

theorem RR.st {n : Nat} {hX hM : AH} (R : RR n hX hM) : gi hX 0 14 = gi hM 0 1 := R.2.2.2.2.1.2.2.2.2.1
/-- a place of the isle is written, and nothing can be undone -/
theorem RRs.clr {n : Nat} {hX hM : AH} (S : RRs n hX hM) {a : Nat} {i k v : Int} (hk : okP k ∧ k ≠ 3) (ha : a = 1 + la k) (hi : i = lb k) (hv : InvR (up1 (gi hM 2) k v)) : RRs n (si (si hX a i v) 41 1 0) (si (si (si hM 0 0 0) 0 8 0) 2 k v) := by
  have er : gi (si (si (si hM 0 0 0) 0 8 0) 2 k v) 2 = up1 (gi hM 2) k v := by rw [gi_self, gi_o (by decide), gi_o (by decide)]
  have hla := la_le k
  have hk2 := hk.1
  unfold okP at hk2
  refine S.isle ⟨?_, ?_, ?_⟩ ((SameXe.rfl'.si ⟨by omega, fun _ => Or.inl (by omega)⟩).si ⟨by decide, fun _ => Or.inr ⟨rfl, rfl⟩⟩) (((SameMe.rfl'.si (by unfold coreM eM1; omega)).si (by unfold coreM eM1; omega)).si (by unfold coreM eM1; omega)) (Or.inr ⟨?_, ?_⟩)
  · rw [er]
    exact (S.1.1.set hk.1 ha hi).setX (fun c hc => by omega)
  · rw [er]
    exact S.1.2.1.up ((DynX.rfl'.si (by omega)).si (by decide)) (fun _ => rfl) (by omega)
  · rw [er]; exact hv
  · exact gi_eq
  · rw [gi_no (by decide), gi_eq]
theorem la_39 {c : Int} (h : 0 ≤ c ∧ c < 25) : la (39 + c) = 9 ∧ lb (39 + c) = c := by
  unfold la lb
  rw [if_neg (by omega), if_neg (by omega), if_neg (by omega), if_neg (by omega), if_pos (by omega), if_neg (by omega), if_neg (by omega), if_neg (by omega), if_neg (by omega), if_pos (by omega)]
  omega
theorem la_104 {c : Int} (h : 0 ≤ c ∧ c < 25) : la (104 + c) = 10 ∧ lb (104 + c) = c := by
  unfold la lb
  rw [if_neg (by omega), if_neg (by omega), if_neg (by omega), if_neg (by omega), if_neg (by omega), if_neg (by omega), if_neg (by omega), if_neg (by omega), if_neg (by omega), if_neg (by omega), if_pos (by omega), if_neg (by omega), if_neg (by omega), if_neg (by omega), if_neg (by omega), if_neg (by omega), if_neg (by omega), if_neg (by omega), if_neg (by omega), if_neg (by omega), if_neg (by omega), if_pos (by omega)]
  omega
theorem lp_atX {d b : Nat} {Q : Option AV → AH → Prop} {h : AH} {x : Int} (h8 : gi h 1 2 ≤ 8) : ∀ (n : Nat) (i s : Int), 0 ≤ i → i + n = gi h 1 2 → 0 ≤ s → s ≤ i → Q (some (vI (s + sumZ (fun i => b2i (gi h 8 i = x)) n i))) h → Lp_X7_at_50 d b Q x s i h
  | 0, i, s, hi, e, s1, s2, k => l_X7_at_50 ⟨fun _ => by unfold sumZ at k; rwa [Int.add_zero] at k, fun c => absurd (by omega) c⟩
  | n + 1, i, s, hi, e, s1, s2, k => by
    unfold sumZ at k
    refine l_X7_at_50 ⟨fun c => by omega, fun c => ⟨by omega, fun c1 => ⟨by omega, by omega, ?_⟩, fun c1 => ⟨by omega, ?_⟩⟩⟩
    · rw [b2i_t c1, ← Int.add_assoc] at k
      exact lp_atX h8 n (i + 1) (s + 1) (by omega) (by omega) (by omega) (by omega) k
    · rw [b2i_f c1, Int.zero_add] at k
      exact lp_atX h8 n (i + 1) s (by omega) (by omega) (by omega) (by omega) k
theorem lp_atM {d b : Nat} {Q : Option AV → AH → Prop} {h : AH} {x : Int} (h8 : gi h 2 1 ≤ 8) : ∀ (n : Nat) (i s : Int), 0 ≤ i → i + n = gi h 2 1 → 0 ≤ s → s ≤ i → Q (some (vI (s + sumZ (fun i => b2i (gi h 2 (15 + i) = x)) n i))) h → Lp_X8_at_55 d b Q x s i h
  | 0, i, s, hi, e, s1, s2, k => l_X8_at_55 ⟨fun _ => by unfold sumZ at k; rwa [Int.add_zero] at k, fun c => absurd (by omega) c⟩
  | n + 1, i, s, hi, e, s1, s2, k => by
    unfold sumZ at k
    refine l_X8_at_55 ⟨fun c => by omega, fun c => ⟨by omega, by omega, fun c1 => ⟨by omega, by omega, ?_⟩, fun c1 => ⟨by omega, by omega, ?_⟩⟩⟩
    · rw [b2i_t c1, ← Int.add_assoc] at k
      exact lp_atM h8 n (i + 1) (s + 1) (by omega) (by omega) (by omega) (by omega) k
    · rw [b2i_f c1, ← Int.add_assoc] at k
      exact lp_atM h8 n (i + 1) (s + 0) (by omega) (by omega) (by omega) (by omega) k
