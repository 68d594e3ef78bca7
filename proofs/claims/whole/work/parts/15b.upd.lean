/-- the relation, where the tape's length alone changed -/
theorem RR.tape {n : Nat} {hX hM : AH} (R : RR n hX hM) (hn : n < 512) {x : Int} (h0 : 0 ≤ x) (h1 : x ≤ 400) : RR (n + 1) (si hX 29 1 x) (si (si hM 0 0 0) 0 13 x) := by
  obtain ⟨a1, a2, a3, a4, ⟨b1, b2, b3, b4, b5, b6, b7, b8⟩, a6, a7⟩ := R
  have q : ∀ {a : Nat} (k : Int), a ≠ 29 → gi (si hX 29 1 x) a k = gi hX a k := fun k z => by rw [gi_o z]
  have p : ∀ {a : Nat} (k : Int), (a ≠ 0 ∨ (k ≠ 0 ∧ k ≠ 13)) → gi (si (si hM 0 0 0) 0 13 x) a k = gi hM a k := fun k z => by
    rw [gi_si, if_neg (by omega), gi_si, if_neg (by omega)]
  have d : DynX hX (si hX 29 1 x) := DynX.rfl'.si (by decide)
  have e2 : gi (si (si hM 0 0 0) 0 13 x) 2 = gi hM 2 := funext fun k => p k (by omega)
  refine ⟨?_, a2.to (q _ (by decide)) (fun k => q _ (by decide)) (p _ (by omega)) (fun k => p _ (by omega)) (fun k => p _ (by omega)) (p _ (by omega)) (fun u z => by rw [e2]; exact z),
    a3.to (fun k => q _ (by decide)) (fun q' a b k => q _ (by omega)) d (fun _ _ _ _ => rfl) (fun k => p _ (by omega)) (fun k => p _ (by omega)),
    a4.to (q _ (by decide)) (fun q' a b k => q _ (by omega)) (fun k => q _ (by decide)) (p _ (by omega)) (fun k => p _ (by omega)) (fun k => p _ (by omega)),
    ⟨⟨by rw [gi_eq, gi_eq], by rw [gi_eq]; exact h0, by rw [gi_eq]; exact h1, fun i i0 i1 => ?_⟩, ?_, ?_, ?_, ?_, ?_, fun k k0 k1 => ?_, by omega⟩, a6.to (p _ (by omega)) (fun _ _ _ => rfl), a7⟩
  · rw [e2]
    exact a1.to (fun c hc k => q _ (by omega)) d (fun _ => rfl)
  · rw [q _ (by decide), p _ (by omega)]
    exact b1.2.2.2 i i0 i1
  · rw [q _ (by decide), p _ (by omega)]; exact b2
  · rw [q _ (by decide), p _ (by omega)]; exact b3
  · rw [q _ (by decide), p _ (by omega)]; exact b4
  · rw [q _ (by decide), p _ (by omega)]; exact b5
  · simp only [q _ (show (14 : Nat) ≠ 29 by decide), p _ (show (1 : Nat) ≠ 0 ∨ _ from Or.inl (by decide))]; exact b6
  · rw [p _ (by omega)]
    have := b7 k k0 k1
    omega

theorem m2 {h : AH} {k v j : Int} : gi (si h 0 k v) 2 j = gi h 2 j := gi_no (by decide)
theorem m2f {h : AH} {k v : Int} : gi (si h 0 k v) 2 = gi h 2 := gi_o (by decide)

theorem RRs.house {n : Nat} {hX hM : AH} (S : RRs n hX hM) {s : Int} (h8 : gi hM 2 0 < 8) (hs : 1 ≤ s ∧ s ≤ 9) : RRs n (si (si hX 2 (gi hX 1 0) s) 1 0 (gi hX 1 0 + 1)) (si (si (si hM 0 0 0) 2 (64 + gi hM 2 0) s) 2 0 (gi hM 2 0 + 1)) := by
  have I := S.1.1
  have V := S.1.2.2
  have V1 := V.1
  have e0 := I.houses
  have er : gi (si (si (si hM 0 0 0) 2 (64 + gi hM 2 0) s) 2 0 (gi hM 2 0 + 1)) 2 = up1 (up1 (gi hM 2) (64 + gi hM 2 0) s) 0 (gi hM 2 0 + 1) := by rw [gi_self, gi_self, gi_o (by decide)]
  refine S.isle ⟨?_, ?_, ?_⟩ ((SameXe.rfl'.si ⟨by decide, fun _ => Or.inl (by decide)⟩).si ⟨by decide, fun _ => Or.inl (by decide)⟩) (((SameMe.rfl'.si (by unfold coreM eM1; omega)).si (by unfold coreM eM1; omega)).si (by unfold coreM eM1; omega)) (Or.inl ⟨?_, ?_, ?_, fun u z => ?_⟩)
  · rw [er, e0]
    rw [e0] at V1 h8
    refine (I.set (k := 64 + gi hX 1 0) (by unfold okP; omega) ?_ ?_).set (k := 0) (by unfold okP; omega) rfl rfl
    · rw [show la (64 + gi hX 1 0) = 1 by unfold la; rw [if_neg (by omega), if_neg (by omega), if_neg (by omega), if_neg (by omega), if_neg (by omega), if_pos (by omega)]]
    · rw [show lb (64 + gi hX 1 0) = gi hX 1 0 by unfold lb; rw [if_neg (by omega), if_neg (by omega), if_neg (by omega), if_neg (by omega), if_neg (by omega), if_pos (by omega)]; omega]
  · rw [er]
    exact (S.1.2.1.up (DynX.rfl'.si (by decide)) (fun _ => rfl) (by omega)).up (DynX.rfl'.si (by decide)) (fun _ => rfl) (by omega)
  · rw [er]; exact V.house h8 hs
  · rw [gi_no (by decide), gi_no (by decide)]
  · rw [gi_no (by decide), gi_no (by decide), gi_nk (by decide)]
  · rw [er, up1_ne (by decide), up1_ne (by omega)]
  · rw [er, backR_up (by omega), backR_up (by omega)]
    have := z.house (s := s) (by rw [backR_at (by omega)]; exact h8) hs
    rwa [backR_at (by omega)] at this
theorem RRs.foe {n : Nat} {hX hM : AH} (S : RRs n hX hM) {s : Int} (h8 : gi hM 2 2 < 8) (hs : 1 ≤ s ∧ s ≤ 9) : RRs n (si (si hX 12 (gi hX 1 12) s) 1 12 (gi hX 1 12 + 1)) (si (si (si hM 0 0 0) 2 (129 + gi hM 2 2) s) 2 2 (gi hM 2 2 + 1)) := by
  have I := S.1.1
  have V := S.1.2.2
  have V1 := V.1
  have e0 := I.foes
  have er : gi (si (si (si hM 0 0 0) 2 (129 + gi hM 2 2) s) 2 2 (gi hM 2 2 + 1)) 2 = up1 (up1 (gi hM 2) (129 + gi hM 2 2) s) 2 (gi hM 2 2 + 1) := by rw [gi_self, gi_self, gi_o (by decide)]
  refine S.isle ⟨?_, ?_, ?_⟩ ((SameXe.rfl'.si ⟨by decide, fun _ => Or.inl (by decide)⟩).si ⟨by decide, fun _ => Or.inl (by decide)⟩) (((SameMe.rfl'.si (by unfold coreM eM1; omega)).si (by unfold coreM eM1; omega)).si (by unfold coreM eM1; omega)) (Or.inl ⟨?_, ?_, ?_, fun u z => ?_⟩)
  · rw [er, e0]
    rw [e0] at V1 h8
    refine (I.set (k := 129 + gi hX 1 12) (by unfold okP; omega) ?_ ?_).set (k := 2) (by unfold okP; omega) rfl rfl
    · rw [show la (129 + gi hX 1 12) = 11 by unfold la; rw [if_neg (by omega), if_neg (by omega), if_neg (by omega), if_neg (by omega), if_neg (by omega), if_neg (by omega), if_neg (by omega), if_neg (by omega), if_neg (by omega), if_neg (by omega), if_neg (by omega)]]
    · rw [show lb (129 + gi hX 1 12) = gi hX 1 12 by unfold lb; rw [if_neg (by omega), if_neg (by omega), if_neg (by omega), if_neg (by omega), if_neg (by omega), if_neg (by omega), if_neg (by omega), if_neg (by omega), if_neg (by omega), if_neg (by omega), if_neg (by omega)]; omega]
  · rw [er]
    exact (S.1.2.1.up (DynX.rfl'.si (by decide)) (fun _ => rfl) (by omega)).up (DynX.rfl'.si (by decide)) (fun _ => rfl) (by omega)
  · rw [er]; exact V.foe h8 hs
  · rw [gi_no (by decide), gi_no (by decide)]
  · rw [gi_no (by decide), gi_no (by decide), gi_nk (by decide)]
  · rw [er, up1_ne (by decide), up1_ne (by omega)]
  · rw [er, backR_up (by omega), backR_up (by omega)]
    have := z.foe (s := s) (by rw [backR_at (by omega)]; exact h8) hs
    rwa [backR_at (by omega)] at this
/-- one number of the isle that is not told by a snapshot -/
theorem RRs.num {n : Nat} {hX hM : AH} (S : RRs n hX hM) {k i v : Int} (hk : k = 0 ∨ k = 1 ∨ k = 2 ∨ k = 4) (hi : i = lb k) (hv : ∀ r, InvR r → (∀ j, j < 5 → r j = gi hM 2 j) → InvR (up1 r k v)) : RRs n (si hX 1 i v) (si (si hM 0 0 0) 2 k v) := by
  have er : gi (si (si hM 0 0 0) 2 k v) 2 = up1 (gi hM 2) k v := by rw [gi_self, gi_o (by decide)]
  refine S.isle ⟨?_, ?_, ?_⟩ (SameXe.rfl'.si ⟨by decide, fun _ => Or.inl (by decide)⟩) ((SameMe.rfl'.si (by unfold coreM eM1; omega)).si (by unfold coreM eM1; omega)) (Or.inl ⟨?_, ?_, ?_, fun u z => ?_⟩)
  · rw [er]
    exact S.1.1.set (by unfold okP; omega) (by rw [show la k = 0 by unfold la; rw [if_pos (by omega)]]) hi
  · rw [er]
    exact S.1.2.1.up (DynX.rfl'.si (by decide)) (fun _ => rfl) (by omega)
  · rw [er]; exact hv _ S.1.2.2 (fun _ _ => rfl)
  · rw [gi_no (by decide)]
  · rw [gi_no (by decide), gi_nk (by decide)]
  · rw [er, up1_ne (by omega)]
  · rw [er, backR_up (by omega)]
    exact hv _ z (fun j hj => backR_at (by omega))

theorem RR.st {n : Nat} {hX hM : AH} (R : RR n hX hM) : gi hX 0 14 = gi hM 0 1 := R.2.2.2.2.1.2.2.2.2.1
/-- a place of the isle is written, and nothing can be undone -/
theorem RRs.clr {n : Nat} {hX hM : AH} (S : RRs n hX hM) {a : Nat} {i k v : Int} (hk : okP k ∧ k ≠ 3) (ha : a = 1 + la k) (hi : i = lb k) (hv : InvR (up1 (gi hM 2) k v)) : RRs n (si (si hX a i v) 41 1 0) (si (si (si hM 0 0 0) 0 8 0) 2 k v) := by
  have er : gi (si (si (si hM 0 0 0) 0 8 0) 2 k v) 2 = up1 (gi hM 2) k v := by rw [gi_self, gi_o (by decide), gi_o (by decide)]
  have hla := la_le k
  have hk2 := hk.1
  unfold okP at hk2
  refine S.isle ⟨?_, ?_, ?_⟩ ((SameXe.rfl'.si ⟨by omega, fun _ => Or.inl (by omega)⟩).si ⟨by decide, fun _ => Or.inr ⟨rfl, rfl⟩⟩) (((SameMe.rfl'.si (by unfold coreM eM1; omega)).si (by unfold coreM eM1; omega)).si (by unfold coreM eM1; omega)) (Or.inr ⟨?_, ?_⟩)
  · rw [er]
    exact (S.1.1.set hk.1 ha hi).setX (fun c hc => by omega)
  · rw [er]
    exact S.1.2.1.up ((DynX.rfl'.si (by omega)).si (by decide)) (fun _ => rfl) (by omega)
  · rw [er]; exact hv
  · exact gi_eq
  · rw [gi_no (by decide), gi_eq]
theorem la_39 {c : Int} (h : 0 ≤ c ∧ c < 25) : la (39 + c) = 9 ∧ lb (39 + c) = c := by
  unfold la lb
  rw [if_neg (by omega), if_neg (by omega), if_neg (by omega), if_neg (by omega), if_pos (by omega), if_neg (by omega), if_neg (by omega), if_neg (by omega), if_neg (by omega), if_pos (by omega)]
  omega
theorem la_104 {c : Int} (h : 0 ≤ c ∧ c < 25) : la (104 + c) = 10 ∧ lb (104 + c) = c := by
  unfold la lb
  rw [if_neg (by omega), if_neg (by omega), if_neg (by omega), if_neg (by omega), if_neg (by omega), if_neg (by omega), if_neg (by omega), if_neg (by omega), if_neg (by omega), if_neg (by omega), if_pos (by omega), if_neg (by omega), if_neg (by omega), if_neg (by omega), if_neg (by omega), if_neg (by omega), if_neg (by omega), if_neg (by omega), if_neg (by omega), if_neg (by omega), if_neg (by omega), if_pos (by omega)]
  omega
theorem lp_atX {d b : Nat} {Q : Option AV → AH → Prop} {h : AH} {x : Int} (h8 : gi h 1 2 ≤ 8) : ∀ (n : Nat) (i s : Int), 0 ≤ i → i + n = gi h 1 2 → 0 ≤ s → s ≤ i → Q (some (vI (s + sumZ (fun i => b2i (gi h 8 i = x)) n i))) h → Lp_X7_at_50 d b Q x s i h
  | 0, i, s, hi, e, s1, s2, k => l_X7_at_50 ⟨fun _ => by unfold sumZ at k; rwa [Int.add_zero] at k, fun c => absurd (by omega) c⟩
  | n + 1, i, s, hi, e, s1, s2, k => by
    unfold sumZ at k
    refine l_X7_at_50 ⟨fun c => by omega, fun c => ⟨by omega, fun c1 => ⟨by omega, by omega, ?_⟩, fun c1 => ⟨by omega, ?_⟩⟩⟩
    · rw [b2i_t c1, ← Int.add_assoc] at k
      exact lp_atX h8 n (i + 1) (s + 1) (by omega) (by omega) (by omega) (by omega) k
    · rw [b2i_f c1, Int.zero_add] at k
      exact lp_atX h8 n (i + 1) s (by omega) (by omega) (by omega) (by omega) k
theorem lp_atM {d b : Nat} {Q : Option AV → AH → Prop} {h : AH} {x : Int} (h8 : gi h 2 1 ≤ 8) : ∀ (n : Nat) (i s : Int), 0 ≤ i → i + n = gi h 2 1 → 0 ≤ s → s ≤ i → Q (some (vI (s + sumZ (fun i => b2i (gi h 2 (15 + i) = x)) n i))) h → Lp_X8_at_55 d b Q x s i h
  | 0, i, s, hi, e, s1, s2, k => l_X8_at_55 ⟨fun _ => by unfold sumZ at k; rwa [Int.add_zero] at k, fun c => absurd (by omega) c⟩
  | n + 1, i, s, hi, e, s1, s2, k => by
    unfold sumZ at k
    refine l_X8_at_55 ⟨fun c => by omega, fun c => ⟨by omega, by omega, fun c1 => ⟨by omega, by omega, ?_⟩, fun c1 => ⟨by omega, by omega, ?_⟩⟩⟩
    · rw [b2i_t c1, ← Int.add_assoc] at k
      exact lp_atM h8 n (i + 1) (s + 1) (by omega) (by omega) (by omega) (by omega) k
    · rw [b2i_f c1, ← Int.add_assoc] at k
      exact lp_atM h8 n (i + 1) (s + 0) (by omega) (by omega) (by omega) (by omega) k

theorem la_7 {c : Int} (h : 0 ≤ c ∧ c < 8) : la (7 + c) = 6 ∧ lb (7 + c) = c := by
  unfold la lb
  rw [if_neg (by omega), if_pos (by omega), if_neg (by omega), if_pos (by omega)]
  omega

theorem la_15 {c : Int} (h : 0 ≤ c ∧ c < 8) : la (15 + c) = 7 ∧ lb (15 + c) = c := by
  unfold la lb
  rw [if_neg (by omega), if_neg (by omega), if_pos (by omega), if_neg (by omega), if_neg (by omega), if_pos (by omega)]
  omega

theorem la_23 {c : Int} (h : 0 ≤ c ∧ c < 8) : la (23 + c) = 8 ∧ lb (23 + c) = c := by
  unfold la lb
  rw [if_neg (by omega), if_neg (by omega), if_neg (by omega), if_pos (by omega), if_neg (by omega), if_neg (by omega), if_neg (by omega), if_pos (by omega)]
  omega

theorem la_64 {c : Int} (h : 0 ≤ c ∧ c < 8) : la (64 + c) = 1 ∧ lb (64 + c) = c := by
  unfold la lb
  rw [if_neg (by omega), if_neg (by omega), if_neg (by omega), if_neg (by omega), if_neg (by omega), if_pos (by omega), if_neg (by omega), if_neg (by omega), if_neg (by omega), if_neg (by omega), if_neg (by omega), if_pos (by omega)]
  omega

theorem la_72 {c : Int} (h : 0 ≤ c ∧ c < 8) : la (72 + c) = 2 ∧ lb (72 + c) = c := by
  unfold la lb
  rw [if_neg (by omega), if_neg (by omega), if_neg (by omega), if_neg (by omega), if_neg (by omega), if_neg (by omega), if_pos (by omega), if_neg (by omega), if_neg (by omega), if_neg (by omega), if_neg (by omega), if_neg (by omega), if_neg (by omega), if_pos (by omega)]
  omega

theorem la_80 {c : Int} (h : 0 ≤ c ∧ c < 8) : la (80 + c) = 3 ∧ lb (80 + c) = c := by
  unfold la lb
  rw [if_neg (by omega), if_neg (by omega), if_neg (by omega), if_neg (by omega), if_neg (by omega), if_neg (by omega), if_neg (by omega), if_pos (by omega), if_neg (by omega), if_neg (by omega), if_neg (by omega), if_neg (by omega), if_neg (by omega), if_neg (by omega), if_neg (by omega), if_pos (by omega)]
  omega

theorem la_88 {c : Int} (h : 0 ≤ c ∧ c < 8) : la (88 + c) = 4 ∧ lb (88 + c) = c := by
  unfold la lb
  rw [if_neg (by omega), if_neg (by omega), if_neg (by omega), if_neg (by omega), if_neg (by omega), if_neg (by omega), if_neg (by omega), if_neg (by omega), if_pos (by omega), if_neg (by omega), if_neg (by omega), if_neg (by omega), if_neg (by omega), if_neg (by omega), if_neg (by omega), if_neg (by omega), if_neg (by omega), if_pos (by omega)]
  omega

theorem la_96 {c : Int} (h : 0 ≤ c ∧ c < 8) : la (96 + c) = 5 ∧ lb (96 + c) = c := by
  unfold la lb
  rw [if_neg (by omega), if_neg (by omega), if_neg (by omega), if_neg (by omega), if_neg (by omega), if_neg (by omega), if_neg (by omega), if_neg (by omega), if_neg (by omega), if_pos (by omega), if_neg (by omega), if_neg (by omega), if_neg (by omega), if_neg (by omega), if_neg (by omega), if_neg (by omega), if_neg (by omega), if_neg (by omega), if_neg (by omega), if_pos (by omega)]
  omega

theorem la_129 {c : Int} (h : 0 ≤ c ∧ c < 8) : la (129 + c) = 11 ∧ lb (129 + c) = c := by
  unfold la lb
  rw [if_neg (by omega), if_neg (by omega), if_neg (by omega), if_neg (by omega), if_neg (by omega), if_neg (by omega), if_neg (by omega), if_neg (by omega), if_neg (by omega), if_neg (by omega), if_neg (by omega), if_neg (by omega), if_neg (by omega), if_neg (by omega), if_neg (by omega), if_neg (by omega), if_neg (by omega), if_neg (by omega), if_neg (by omega), if_neg (by omega), if_neg (by omega), if_neg (by omega)]
  omega

theorem InvR.door {r : Int → Int} (V : InvR r) {w wd hm kn : Int} (h8 : r 1 < 8) (h1 : 1 ≤ w ∧ w ≤ 9) (h2 : 0 ≤ wd ∧ wd ≤ 3) (h3 : 0 ≤ hm ∧ hm < r 0) (h4 : 0 ≤ kn ∧ kn ≤ 63) (hu : ∀ d, 0 ≤ d → d < r 1 → r (7 + d) ≠ hm) : InvR (up1 (up1 (up1 (up1 (up1 (up1 (up1 (up1 (up1 (r) (72 + r 1) w) (80 + r 1) wd) (88 + r 1) hm) (96 + r 1) kn) (7 + r 1) hm) (15 + r 1) (-1)) (23 + r 1) 0) (31 + r 1) 0) 1 (r 1 + 1)) := by
  have V1 := V.1
  refine ⟨?_, ?_, ?_, ?_, ?_, ?_, ?_⟩
  · simp (disch := omega) only [up1_ne, up1_eq]
    omega
  · intro d d0 d1
    simp (disch := omega) only [up1_ne, up1_eq] at d1
    by_cases e : d = r 1
    · subst e
      simp (disch := omega) only [up1_ne, up1_eq]
      refine ⟨by omega, by omega, by omega, by omega, by omega, by omega, by first | omega | exact Or.inr trivial, by first | exact Or.inr ⟨trivial, fun z => by omega⟩ | (right; simp; done) | (simp; omega), by omega, by omega, by omega, by omega, by omega, by omega, by omega, by omega, by first | omega | exact Or.inr trivial | exact Or.inr rfl⟩
    · simp (disch := omega) only [up1_ne, up1_eq]
      exact V.2.1 d d0 (by omega)
  · intro d e d0 d1 d2
    simp (disch := omega) only [up1_ne, up1_eq] at d2
    by_cases c : e = r 1
    · subst c
      have q := hu d d0 d1
      simp (disch := omega) only [up1_ne, up1_eq]
      omega
    · simp (disch := omega) only [up1_ne, up1_eq]
      exact V.2.2.1 d e d0 d1 (by omega)
  · intro d d0 d1
    simp (disch := omega) only [up1_ne, up1_eq]
    exact V.2.2.2.1 d d0 d1
  · intro d d0 d1
    simp (disch := omega) only [up1_ne, up1_eq] at d1
    simp (disch := omega) only [up1_ne, up1_eq]
    exact V.2.2.2.2.1 d d0 (by omega)
  · intro d d0 d1
    simp (disch := omega) only [up1_ne, up1_eq] at d1
    simp (disch := omega) only [up1_ne, up1_eq]
    exact V.2.2.2.2.2.1 d d0 (by omega)
  · intro i i0 i1
    rw [lawC_eq (r := r) i0 (fun j hj => by simp (disch := omega) only [up1_ne])]
    exact V.2.2.2.2.2.2 i i0 i1
theorem RRs.door {n : Nat} {hX hM : AH} (S : RRs n hX hM) {w wd hm kn : Int} (h8 : gi hM 2 1 < 8) (h1 : 1 ≤ w ∧ w ≤ 9) (h2 : 0 ≤ wd ∧ wd ≤ 3) (h3 : 0 ≤ hm ∧ hm < gi hM 2 0) (h4 : 0 ≤ kn ∧ kn ≤ 63) (hu : ∀ d, 0 ≤ d → d < gi hM 2 1 → gi hM 2 (7 + d) ≠ hm) : RRs n (si (si (si (si (si (si (si (si (si hX 3 (gi hX 1 2) w) 4 (gi hX 1 2) wd) 5 (gi hX 1 2) hm) 6 (gi hX 1 2) kn) 7 (gi hX 1 2) hm) 8 (gi hX 1 2) (-1)) 9 (gi hX 1 2) 0) 1 2 (gi hX 1 2 + 1)) 41 1 0) (si (si (si (si (si (si (si (si (si (si (si hM 0 0 0) 2 (72 + gi hM 2 1) w) 2 (80 + gi hM 2 1) wd) 2 (88 + gi hM 2 1) hm) 2 (96 + gi hM 2 1) kn) 2 (7 + gi hM 2 1) hm) 2 (15 + gi hM 2 1) (-1)) 2 (23 + gi hM 2 1) 0) 2 (31 + gi hM 2 1) 0) 2 1 (gi hM 2 1 + 1)) 0 8 0) := by
  have V := S.1.2.2
  have v1 : 0 ≤ gi hM 2 1 := V.1.2.2.1
  have e1 := S.1.1.doors
  have er : gi (si (si (si (si (si (si (si (si (si (si (si hM 0 0 0) 2 (72 + gi hM 2 1) w) 2 (80 + gi hM 2 1) wd) 2 (88 + gi hM 2 1) hm) 2 (96 + gi hM 2 1) kn) 2 (7 + gi hM 2 1) hm) 2 (15 + gi hM 2 1) (-1)) 2 (23 + gi hM 2 1) 0) 2 (31 + gi hM 2 1) 0) 2 1 (gi hM 2 1 + 1)) 0 8 0) 2 = (up1 (up1 (up1 (up1 (up1 (up1 (up1 (up1 (up1 (gi hM 2) (72 + gi hM 2 1) w) (80 + gi hM 2 1) wd) (88 + gi hM 2 1) hm) (96 + gi hM 2 1) kn) (7 + gi hM 2 1) hm) (15 + gi hM 2 1) (-1)) (23 + gi hM 2 1) 0) (31 + gi hM 2 1) 0) 1 (gi hM 2 1 + 1)) := by simp only [gi_self, gi_o (show (2 : Nat) ≠ 0 by decide)]
  have x1 : ∀ (a : Nat), 1 ≤ a ∧ a ≤ 13 → ∀ k : Int, a < 76 ∧ (coreX a k → eX1 a k) := fun a h k => ⟨by omega, fun _ => Or.inl h⟩
  have m1 : ∀ k : Int, coreM 2 k → eM1 2 k := fun k _ => Or.inl rfl
  refine S.isle ⟨?_, ?_, ?_⟩ (SameXe.si (SameXe.si (SameXe.si (SameXe.si (SameXe.si (SameXe.si (SameXe.si (SameXe.si (SameXe.si SameXe.rfl' (x1 3 (by decide) _)) (x1 4 (by decide) _)) (x1 5 (by decide) _)) (x1 6 (by decide) _)) (x1 7 (by decide) _)) (x1 8 (by decide) _)) (x1 9 (by decide) _)) (x1 1 (by decide) _)) ⟨by decide, fun _ => Or.inr ⟨rfl, rfl⟩⟩)
    (SameMe.si (SameMe.si (SameMe.si (SameMe.si (SameMe.si (SameMe.si (SameMe.si (SameMe.si (SameMe.si (SameMe.si (SameMe.si SameMe.rfl' (by unfold coreM eM1; omega)) (m1 _)) (m1 _)) (m1 _)) (m1 _)) (m1 _)) (m1 _)) (m1 _)) (m1 _)) (m1 _)) (fun _ => Or.inr ⟨rfl, rfl⟩)) (Or.inr ⟨gi_eq, gi_eq⟩)
  · rw [er, e1]
    rw [e1] at h8 v1
    have b : 0 ≤ gi hX 1 2 ∧ gi hX 1 2 < 8 := ⟨v1, h8⟩
    refine RIs.setX ?_ (fun c hc => by omega)
    refine RIs.set (RIs.setM ?_ (by unfold okP; omega)) (by unfold okP; omega) rfl rfl
    exact (((((((S.1.1.set (by unfold okP; omega) (by rw [(la_72 b).1]) (la_72 b).2.symm).set (by unfold okP; omega) (by rw [(la_80 b).1]) (la_80 b).2.symm).set (by unfold okP; omega) (by rw [(la_88 b).1]) (la_88 b).2.symm).set (by unfold okP; omega) (by rw [(la_96 b).1]) (la_96 b).2.symm).set (by unfold okP; omega) (by rw [(la_7 b).1]) (la_7 b).2.symm).set (by unfold okP; omega) (by rw [(la_15 b).1]) (la_15 b).2.symm).set (by unfold okP; omega) (by rw [(la_23 b).1]) (la_23 b).2.symm)
  · rw [er]
    refine S.1.2.1.to (((((((((DynX.rfl'.si (by decide)).si (by decide)).si (by decide)).si (by decide)).si (by decide)).si (by decide)).si (by decide)).si (by decide)).si (by decide)) (fun i _ _ => rfl) ?_ (fun j hj => ?_)
    · simp (disch := omega) only [up1_ne]
    · simp (disch := omega) only [up1_ne]
  · rw [er]
    exact V.door h8 h1 h2 h3 h4 hu
