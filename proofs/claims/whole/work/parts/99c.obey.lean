/-! an order is obeyed once: the class -/
def VlO (F : Int → Int) (o : Option Vl) (d : Int) : Prop := match o with
  | none => d = -1
  | some x => x F = some d
def BdV (F : Int → Int) (o : Option Vl) : Prop := match o with
  | none => False
  | some x => x F = none
def GoT (F : Int → Int) (o : Option Vl) : Prop := match o with
  | none => True
  | some x => x F = some 1
def SkT (F : Int → Int) (o : Option Vl) : Prop := match o with
  | none => False
  | some x => x F = none ∨ x F = some 0
def NoV (r F : Int → Int) (rc : Rec) : Prop := BdV F rc.2.1 ∨ BdV F rc.2.2.1 ∨ ∃ d to, VlO F rc.2.1 d ∧ VlO F rc.2.2.1 to ∧ refR r rc.1 d to ≠ 0
def DrX (h : AH) : Prop := rf h 35 1 = some 36 ∧ rf h 35 3 = some 37 ∧ (0 ≤ gi h 35 2 ∧ gi h 35 2 ≤ 872) ∧ WfR 37 (gi h 37) 0 (gi h 35 2)
theorem DrX.jx {a b : AH} (D : DrX a) (J : JX a b) : DrX b := by
  obtain ⟨d1, d2, d3, d4⟩ := D
  have e : gi b 37 = gi a 37 := funext fun k => J.1 _ _ (by decide) (by decide)
  have e2 : gi b 35 2 = gi a 35 2 := J.1 _ _ (by decide) (by decide)
  exact ⟨by rw [J.2.1]; exact d1, by rw [J.2.1]; exact d2, by rw [e2]; exact d3, by rw [e, e2]; exact d4⟩
theorem ClX.jx {a b : AH} {m n : Int} {r : Rec} (C : ClX m (gi a 36) (gi a 37) (gi a 35 2) n r) (J : JX a b) : ClX m (gi b 36) (gi b 37) (gi b 35 2) n r := by
  rw [show gi b 36 = gi a 36 from funext fun k => J.1 _ _ (by decide) (by decide), show gi b 37 = gi a 37 from funext fun k => J.1 _ _ (by decide) (by decide), J.1 35 2 (by decide) (by decide)]
  exact C
def eO (n : Int) (q : Nat) (k : Int) : Prop := eA n q k ∨ (q = 0 ∧ (k = 12 ∨ k = 13))
section OBEY
variable {d b : Nat} {Q : Option AV → AH → Prop} {h : AH} {r : Int → Int} {dn lt c n : Int} {rc : Rec}
theorem c_told (D : DrX h) (hc : 0 ≤ c ∧ c < 12) {j : Int} (hj : 0 ≤ j ∧ j ≤ 4) (K : Q (some (vI (gi h 36 (5 * c + j)))) h) : WM GX d b mX5_told [vR (some 35), vI c, vI j] h Q := c_X5_told (t := 35) (a := 36) (na := 60) (Or.inl rfl) D.1 (Or.inl rfl) (by omega) hj (by omega) (by decide) K
/-- a part's value, or that it is missing -/
theorem c_slot {v : Int} {o : Option Vl} (D : DrX h) (E : EnvOk 37 (gi h 39)) (S : StX 1 (gi h 37) (gi h 35 2) v o (VB 37)) (K : ∀ h' u, VX h h' → ((BdV (gi h 39) o ∧ u = -2000000000) ∨ (VlO (gi h 39) o u ∧ -1000000000 ≤ u)) → Q (some (vI u)) h') (K0 : v = -1 → VlO (gi h 39) o (-1) → True) : (v = -1 → VlO (gi h 39) o (-1)) ∧ (v ≠ -1 → WM GX (d + 1) b mX1_value [vR (some 38), vR (some 35), vI v] h Q) := by
  match o, S with
  | none, S => exact ⟨fun _ => rfl, fun z => absurd S z⟩
  | some x, S =>
    obtain ⟨s1, s2, s3⟩ := S
    refine ⟨fun z => by omega, fun _ => c_valO D.2.1 D.2.2.1 D.2.2.2 E ⟨s1, s2⟩ (fun h' V => ?_)⟩
    match hx : x (gi h 39) with
    | none => exact K h' _ V (Or.inl ⟨hx, rfl⟩)
    | some w => exact K h' _ V (Or.inr ⟨hx, (s3 _ E w hx).1⟩)
theorem c_obey (A : RA h 1 r) (D : DrX h) (hc : 0 ≤ c ∧ c < 12) (hv : 0 ≤ rc.1 ∧ rc.1 ≤ 4) (C : ClX 1 (gi h 36) (gi h 37) (gi h 35 2) c rc) (e12 : gi h 0 12 = dn) (e13 : gi h 0 13 = lt) (hd : 0 ≤ dn ∧ dn ≤ 1000) (hl : -1 ≤ lt ∧ lt ≤ 1000000) (en : gi h 41 1 = n) (h0 : 0 ≤ n ∧ n < 256)
    (kS : ∀ h' F, EvO r dn lt F → JX h h' → SkT F rc.2.2.2.2 → Q (some (vI 1)) h')
    (kB : ∀ h' F, EvO r dn lt F → JX h h' → GoT F rc.2.2.2.2 → NoV r F rc → Q (some (vI 0)) h')
    (kA : ∀ h' F x y, EvO r dn lt F → GoT F rc.2.2.2.2 → VlO F rc.2.1 x → VlO F rc.2.2.1 y → refR r rc.1 x y = 0 → RA h' 1 (actR r rc.1 x y) → InvR (actR r rc.1 x y) → Out r (actR r rc.1 x y) → FrX (eO n) h h' → gi h' 41 1 = n + 1 → Kp n rc.1 r h' → gi h' 0 12 = dn + 1 → gi h' 0 13 = (if rc.1 = 2 then actN r rc.1 x y else lt) → Q (some (vI 1)) h') : WM GX (d + 5) b mX7_isObeyed [vR (some 0), vR (some 35), vI c] h Q := by
  refine w_X7_isObeyed (Or.inl rfl) ?_
  rw [e12, e13]
  refine c_X1_learn (by decide) A (fun h1 J1 E1 => ⟨rfl, Or.inl rfl, ?_⟩)
  have V := A.2.2
  obtain ⟨F, eF⟩ : ∃ F, gi h1 39 = F := ⟨_, rfl⟩
  have EF : EvO r dn lt F := by
    rw [← eF]
    exact E1
  have EK : EnvOk 37 F := EF.ok V hd hl
  have D1 := D.jx J1
  have C1 := C.jx J1
  -- a heap like h1, apart from the pile
  have go : GoT F rc.2.2.2.2 → ∀ h2, VX h1 h2 → Lp_X7_isObeyed_46 d b Q 35 c h2 := fun G h2 V2 => by
    have J2 := J1.trans V2.j
    have D2 := D.jx J2
    obtain ⟨c0, c1, c2, c3, c4⟩ := C.jx J2
    have f2 : gi h2 39 = F := (funext fun k => V2.1 39 k (by decide)).trans eF
    refine l_X7_isObeyed_46 (Or.inl rfl) (c_told D2 hc (by decide) ⟨_, rfl, Or.inl rfl, c_told D2 hc (by decide) ⟨_, rfl, ?_⟩⟩)
    have p84 : ∀ h3 u, VX h2 h3 → ((BdV F rc.2.1 ∧ u = -2000000000) ∨ (VlO F rc.2.1 u ∧ -1000000000 ≤ u)) → Lp_X7_isObeyed_84 d b Q 35 c (gi h2 36 (5 * c + 2)) u h3 := fun h3 u V3 hu => by
      have J3 := J2.trans V3.j
      have D3 := D.jx J3
      have f3 : gi h3 39 = F := (funext fun k => V3.1 39 k (by decide)).trans f2
      have c3' := (C.jx J3).2.2.1
      rw [show gi h3 36 (5 * c + 2) = gi h2 36 (5 * c + 2) from V3.1 _ _ (by decide)] at c3'
      have p116 : ∀ h4 w, VX h3 h4 → -1000000000 ≤ u → VlO F rc.2.1 u → ((BdV F rc.2.2.1 ∧ w = -2000000000) ∨ (VlO F rc.2.2.1 w ∧ -1000000000 ≤ w)) → Lp_X7_isObeyed_116 d b Q 35 c u w h4 := fun h4 w V4 hu0 hu1 hw => by
        have J4 := J3.trans V4.j
        have D4 := D.jx J4
        have e0 := (C.jx J4).1
        refine l_X7_isObeyed_116 (Or.inl rfl) ⟨fun z => ?_, fun z => c_told D4 hc (by decide) ⟨_, rfl, ?_⟩⟩
        · rcases hw with ⟨w1, w2⟩ | ⟨w1, w2⟩
          · exact kB h4 F EF J4 G (Or.inr (Or.inl w1))
          · omega
        · rcases hw with ⟨w1, w2⟩ | ⟨w1, w2⟩
          · exact absurd w2 z
          rw [Int.add_zero, e0]
          have hk : rc.1 = 0 ∨ rc.1 = 1 ∨ rc.1 = 2 ∨ rc.1 = 3 ∨ rc.1 = 4 := by omega
          refine c_X7_refusal (A.jx (by decide) J4) hk (fun h5 J5 => ⟨_, rfl, fun z => ?_, fun z => kB h5 F EF (J4.trans J5) G (Or.inr (Or.inr ⟨u, w, hu1, w1, z⟩))⟩)
          have J6 := J4.trans J5
          refine c_X7_act (A.jx (by decide) J6) hk z (n := n) ((J6.1 _ _ (by decide) (by decide)).trans en) h0 (fun h7 A7 I7 O7 F7 n7 K7 => ⟨_, rfl, ?_⟩)
          have g12 : gi h7 0 12 = dn := (F7.1 _ _ (by unfold eA EI eK; omega)).trans ((J6.1 _ _ (by decide) (by decide)).trans e12)
          have g13 : gi h7 0 13 = lt := (F7.1 _ _ (by unfold eA EI eK; omega)).trans ((J6.1 _ _ (by decide) (by decide)).trans e13)
          have FF : FrX (eO n) h h7 := (J6.fr.mono (fun q k y => by unfold eO eA EI; omega)).trans (F7.mono (fun q k y => Or.inl y))
          rw [g12]
          refine ⟨by omega, fun h8 z8 => ?_⟩
          have F8 : FrX (eO n) h h8 := by
            rw [z8]
            exact FF.wi (Or.inr ⟨rfl, Or.inl rfl⟩)
          have o8 : ∀ q k, q ≠ 0 → gi h8 q k = gi h7 q k := fun q k y => by rw [z8, gi_no y]
          have A8 : RA h8 1 (actR r rc.1 u w) := A7.to (fun c hc k => o8 _ _ (by omega)) (by rw [z8]; exact DynX.rfl'.si (by decide)) (fun i => by rw [z8]; rfl)
          refine ⟨fun z2 h9 z9 => ?_, fun z2 => ?_⟩
          · have o9 : ∀ q k, q ≠ 0 → gi h9 q k = gi h7 q k := fun q k y => by rw [z9, gi_no y, o8 q k y]
            have A9 : RA h9 1 (actR r rc.1 u w) := A8.to (fun c hc k => by rw [z9, gi_no (by omega)]) (by rw [z9]; exact DynX.rfl'.si (by decide)) (fun i => by rw [z9]; rfl)
            refine kA h9 F u w EF G hu1 w1 z A9 I7 O7 (by rw [z9]; exact F8.wi (Or.inr ⟨rfl, Or.inr rfl⟩)) ((o9 _ _ (by decide)).trans n7) (K7.fr (fun k => o9 _ _ (by decide))) ?_ ?_
            · rw [z9, gi_nk (by decide), z8, gi_eq]
            · rw [z9, gi_eq, if_pos z2]
          · refine kA h8 F u w EF G hu1 w1 z A8 I7 O7 F8 ((o8 _ _ (by decide)).trans n7) (K7.fr (fun k => o8 _ _ (by decide))) ?_ ?_
            · rw [z8, gi_eq]
            · rw [z8, gi_nk (by decide), g13, if_neg z2]
      refine l_X7_isObeyed_84 (Or.inl rfl) ⟨fun z => ?_, fun z => ?_⟩
      · rcases hu with ⟨w1, w2⟩ | ⟨w1, w2⟩
        · exact kB h3 F EF J3 G (Or.inl w1)
        · omega
      · rcases hu with ⟨w1, w2⟩ | ⟨w1, w2⟩
        · exact absurd w2 z
        have s := c_slot (d := d + 3) (b := 0) (Q := fun rr h4 => ∃ u7, rr = some (vI u7) ∧ Lp_X7_isObeyed_116 d b Q 35 c u u7 h4) D3 (by rw [f3]; exact EK) c3' (fun h4 w V4 hw => ⟨w, rfl, p116 h4 w V4 w2 w1 (by rw [f3] at hw; exact hw)⟩) (fun _ _ => True.intro)
        exact ⟨fun z2 => p116 h3 (-1) VX.rfl' w2 w1 (Or.inr ⟨by have := s.1 z2; rw [f3] at this; exact this, by decide⟩), s.2⟩
    have s := c_slot (d := d + 3) (b := 0) (Q := fun rr h4 => ∃ u7, rr = some (vI u7) ∧ Lp_X7_isObeyed_84 d b Q 35 c (gi h2 36 (5 * c + 2)) u7 h4) D2 (by rw [f2]; exact EK) c1 (fun h4 w V4 hw => ⟨w, rfl, p84 h4 w V4 (by rw [f2] at hw; exact hw)⟩) (fun _ _ => True.intro)
    exact ⟨fun z2 => p84 h2 (-1) VX.rfl' (Or.inr ⟨by have := s.1 z2; rw [f2] at this; exact this, by decide⟩), s.2⟩
  refine c_told D1 hc (by decide) ⟨_, rfl, ?_⟩
  have c4 := C1.2.2.2.2
  match ho : rc.2.2.2.2 with
  | none =>
    rw [ho] at c4 go kS
    exact ⟨fun _ => go True.intro h1 VX.rfl', fun z => absurd c4 z⟩
  | some x =>
    rw [ho] at c4 go kS
    obtain ⟨s1, s2, s3⟩ := c4
    refine ⟨fun z => by omega, fun _ => ?_⟩
    refine c_valO D1.2.1 D1.2.2.1 D1.2.2.2 (by rw [eF]; exact EK) ⟨s1, s2⟩ (fun h2 V2 => ⟨_, rfl, fun z => ?_, fun z => ?_⟩)
    · rw [eF] at z
      match hx : x F with
      | none =>
        rw [hx] at z
        exact absurd z (by decide)
      | some w =>
        rw [hx] at z
        have z : w = 1 := z
        subst z
        exact go hx h2 V2
    · rw [eF] at z
      refine kS h2 F EF (J1.trans V2.j) ?_
      match hx : x F with
      | none => exact Or.inl hx
      | some w =>
        rw [hx] at z
        have z : ¬ w = 1 := z
        have := s3 F EK w hx
        have : w = 0 := by omega
        subst this
        exact Or.inr hx
end OBEY
