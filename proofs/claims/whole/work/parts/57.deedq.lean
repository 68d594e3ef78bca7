/-! launch, sail, fish, hang, tide, undo -/
theorem actN_0 {r : Int → Int} {k d to : Int} (V : InvR r) (hk : k = 0 ∨ k = 1 ∨ k = 2 ∨ k = 3 ∨ k = 4) (hz : refR r k d to = 0) : 0 ≤ actN r k d to := by
  unfold actN
  by_cases k4 : k = 4
  · subst k4
    rw [if_neg (by decide), if_neg (by decide), if_neg (by decide), if_neg (by decide)]
    unfold tideN
    exact (tdN_R _ _ _).1
  obtain ⟨hd, -, -, can⟩ := canR_of k4 hz
  have V2 := V.2.1 d hd.1 hd.2
  have cr : -1 ≤ r (15 + d) ∧ r (15 + d) ≤ 24 ∧ 0 ≤ r (23 + d) := by omega
  clear V2
  unfold canR at can
  rcases hk with z | z | z | z | z
  · rw [if_pos z]
    decide
  · subst z
    have c : ¬ r (15 + d) = -1 ∧ ¬ zbes (r (15 + d)) to = -1 := by omega
    have zb := zbes_R (c := r (15 + d)) (x := to) (by omega)
    rw [if_neg (by decide), if_pos rfl]
    omega
  · subst z
    have c : ¬ r (15 + d) = -1 := by omega
    have I3 := V.2.2.2.1 (r (15 + d)) (by omega) (by omega)
    rw [if_neg (by decide), if_neg (by decide), if_pos rfl]
    exact (rCatch_R _ _ _ _ _ I3.1).1
  · subst z
    rw [if_neg (by decide), if_neg (by decide), if_neg (by decide), if_pos rfl]
    exact cr.2.2
  · exact absurd z k4
/-- what comes behind the reference's deed -/
def EndM (n : Nat) (v : Int) (hX' : AH) : Option AV → AH → Prop := fun r h2 => ∃ u1, r = some (vI u1) ∧ (-7 < u1) ∧ (∀ i : Int, 0 ≤ i → i < 7 → 0 ≤ gi h2 1 i ∧ gi h2 1 i ≤ 1000000) ∧ ∀ h3, h3 = mTell h2 u1 → RQ n (some (vI v)) (some (vI u1)) hX' h3
theorem c_X7_deed {n dx b : Nat} {hX hM : AH} {Q : Option AV → AH → Prop} {kd d to : Int} (R : RR n hX hM) (hn : n < 512) (hk : kd = 0 ∨ kd = 1 ∨ kd = 2 ∨ kd = 3 ∨ kd = 4) (hQ : ∀ v hX', NowM kd d to (si hM 0 0 0) (EndM n v hX') → Q (some (vI v)) hX') : WM GX (dx + 5) b mX7_deed [vR (some 0), vI kd, vI d, vI to] hX Q := by
  have A := R.1
  have S := R.s.same SameX.rfl' (km0 (h := hM)).1
  have e2 : gi (si hM 0 0 0) 2 = gi hM 2 := gi_o (by decide)
  have U := S.2.1.o
  have u8 := S.2.1.2.2.1
  have u0 := S.2.1.2.1
  have u1 := S.2.1.1
  refine w_X7_deed (c_X7_refusal A hk (fun h1 J => ⟨_, rfl, fun z => ?_, fun z => ⟨(S.same J.same SameM.rfl').b5, fun h5 e5 => ?_⟩⟩))
  · refine c_X7_act (A.jx (by decide) J) hk z (n := gi hX 41 1) (J.1 _ _ (by decide) (by decide)) (by omega) (fun h2 B V2 O F n1 K => ⟨_, rfl, c_X6_trim n1 (by omega) (fun h3 F3 n3 e3 => ⟨rfl, fun h4 e4 => ?_⟩)⟩)
    subst e4
    refine hQ _ _ ⟨fun z' => absurd (by rw [e2]; exact z) z', fun _ hM' D => ?_⟩
    obtain ⟨er, M, G⟩ := D
    rw [e2] at er ⊢
    have F' : FrX (eA (gi hX 41 1)) hX h2 := (J.fr.mono (fun q k w => by unfold eA EI; omega)).trans F
    obtain ⟨off', -, U'⟩ := U.act (hM' := hM') (by omega) rfl (by rw [e2]; exact O) er M F' n1 (by rw [e2]; exact K) (by rw [e2]; exact A.2.2)
    have ra : RA h3 1 (gi hM' 2) := by
      rw [er]
      exact B.to (fun c hc k => F3.1 _ _ (by omega)) (F3.dyn (fun q k w => by omega)) (fun i => by rw [F3.2.1])
    have S' : RRs n h3 hM' := S.deed ra (U'.trim n1 n3 e3) ((F'.mono eA_D).trans (F3.mono (fun q k w => by unfold eDX; omega))) G
    have v0 := actN_0 A.2.2 hk z
    refine ⟨_, rfl, by omega, S'.b7, fun hE eE => ?_⟩
    subst eE
    exact RQ.mk rfl (S'.ok hn v0)
  · subst e5
    have vs := refR_vals (gi hM 2) kd d to
    refine hQ _ _ ⟨fun _ h2 T => ?_, fun z' => absurd (by rw [e2] at z'; exact z') z⟩
    have S' : RRs n h1 h2 := S.same J.same T.km.1
    rw [e2]
    refine ⟨_, rfl, by omega, S'.b7, fun hE eE => ?_⟩
    subst eE
    exact RQ.mk rfl (S'.ref hn (by omega))
theorem q_launch {n dx dm : Nat} {hX hM : AH} {Q : Option AV → AH → Prop} {x1 : Int} (R : RR n hX hM) (hn : n < 512) (hQ : ∀ rx hX', WM GM (dm + 7) 0 mX8_launch [vR (some 0), vI x1] hM (fun rm hM' => RQ n rx rm hX' hM') → Q rx hX') : WM GX (dx + 6) 0 mX7_launch [vR (some 0), vI x1] hX Q := by
  refine w_X7_launch fun _ => c_X7_deed R hn (by decide) (fun v hX' N => ⟨v, rfl, hQ _ _ (w_X8_launch fun _ h1 e1 => ?_)⟩)
  subst e1
  exact c_X8_launchNow (R.s.lawK.km km0) (by rw [gi_ne (by omega)]; exact ⟨R.2.1.2.1, R.2.1.2.2.1⟩) N
theorem q_sail {n dx dm : Nat} {hX hM : AH} {Q : Option AV → AH → Prop} {x1 x2 : Int} (R : RR n hX hM) (hn : n < 512) (hQ : ∀ rx hX', WM GM (dm + 3) 0 mX8_sail [vR (some 0), vI x1, vI x2] hM (fun rm hM' => RQ n rx rm hX' hM') → Q rx hX') : WM GX (dx + 6) 0 mX7_sail [vR (some 0), vI x1, vI x2] hX Q := by
  refine w_X7_sail fun _ _ => c_X7_deed R hn (by decide) (fun v hX' N => ⟨v, rfl, hQ _ _ (w_X8_sail fun _ _ h1 e1 => ?_)⟩)
  subst e1
  exact c_X8_sailNow (R.s.lawK.km km0) (by rw [gi_ne (by omega)]; exact ⟨R.2.1.2.1, R.2.1.2.2.1⟩) N
theorem q_fish {n dx dm : Nat} {hX hM : AH} {Q : Option AV → AH → Prop} {x1 : Int} (R : RR n hX hM) (hn : n < 512) (hQ : ∀ rx hX', WM GM (dm + 8) 0 mX8_fish [vR (some 0), vI x1] hM (fun rm hM' => RQ n rx rm hX' hM') → Q rx hX') : WM GX (dx + 6) 0 mX7_fish [vR (some 0), vI x1] hX Q := by
  refine w_X7_fish fun _ => c_X7_deed R hn (by decide) (fun v hX' N => ⟨v, rfl, hQ _ _ (w_X8_fish fun _ h1 e1 => ?_)⟩)
  subst e1
  exact c_X8_fishNow (R.s.lawK.km km0) (by rw [gi_ne (by omega)]; exact ⟨R.2.1.2.1, R.2.1.2.2.1⟩) N
theorem q_hang {n dx dm : Nat} {hX hM : AH} {Q : Option AV → AH → Prop} {x1 x2 : Int} (R : RR n hX hM) (hn : n < 512) (hQ : ∀ rx hX', WM GM (dm + 7) 0 mX8_hang [vR (some 0), vI x1, vI x2] hM (fun rm hM' => RQ n rx rm hX' hM') → Q rx hX') : WM GX (dx + 6) 0 mX7_hang [vR (some 0), vI x1, vI x2] hX Q := by
  refine w_X7_hang fun _ _ => c_X7_deed R hn (by decide) (fun v hX' N => ⟨v, rfl, hQ _ _ (w_X8_hang fun _ _ h1 e1 => ?_)⟩)
  subst e1
  exact c_X8_hangNow (R.s.lawK.km km0) (by rw [gi_ne (by omega)]; exact ⟨R.2.1.2.1, R.2.1.2.2.1⟩) N
theorem q_tide {n dx dm : Nat} {hX hM : AH} {Q : Option AV → AH → Prop} (R : RR n hX hM) (hn : n < 512) (hQ : ∀ rx hX', WM GM (dm + 3) 0 mX8_tide [vR (some 0)] hM (fun rm hM' => RQ n rx rm hX' hM') → Q rx hX') : WM GX (dx + 6) 0 mX7_tide [vR (some 0)] hX Q := by
  refine w_X7_tide (c_X7_deed R hn (by decide) (fun v hX' N => ⟨v, rfl, hQ _ _ (w_X8_tide fun h1 e1 => ?_)⟩))
  subst e1
  exact c_X8_tideNow (R.s.lawK.km km0) (by rw [gi_ne (by omega)]; exact ⟨R.2.1.2.1, R.2.1.2.2.1⟩) N
/-! undo -/
theorem la_out {k : Int} (hk : okP k) (h : k < 5 ∨ k = 6 ∨ 64 ≤ k) : la k ≠ 6 ∧ la k ≠ 7 ∧ la k ≠ 8 ∧ la k ≠ 9 ∧ la k ≤ 11 ∧ ¬ (la k = 0 ∧ lb k = 14) := by
  unfold okP at hk
  rcases h with c | c | c
  · have : k = 0 ∨ k = 1 ∨ k = 2 ∨ k = 3 ∨ k = 4 := by omega
    rcases this with e | e | e | e | e <;> subst e <;> decide
  · subst c
    decide
  · unfold la
    rw [if_neg (by omega), if_neg (by omega), if_neg (by omega), if_neg (by omega), if_neg (by omega)]
    repeat' split
    all_goals omega
/-- places that going back may change -/
def eBk (q : Nat) (k : Int) : Prop := (q = 1 ∧ k = 14) ∨ q = 7 ∨ q = 8 ∨ q = 9 ∨ q = 10 ∨ (q = 41 ∧ k = 1)
theorem RA.back {h h' : AH} {r u : Int → Int} (A : RA h 1 r) (F : FrX eBk h h') (V : InvR (backR r u)) (e5 : gi h' 1 14 = u 0) (e6 : u 1 = r 6) (e7 : ∀ i, 0 ≤ i → i < 8 → gi h' 7 i = u (2 + i)) (e8 : ∀ i, 0 ≤ i → i < 8 → gi h' 8 i = u (10 + i)) (e9 : ∀ i, 0 ≤ i → i < 8 → gi h' 9 i = u (18 + i)) (e10 : ∀ i, 0 ≤ i → i < 25 → gi h' 10 i = u (34 + i)) : RA h' 1 (backR r u) := by
  refine ⟨fun k hk => ?_, A.2.1.to (F.dyn (fun q k z => by unfold eBk at z; omega)) (fun i _ _ => by rw [F.2.1]) (backR_at (by omega)) (fun j hj => backR_at (by omega)), V⟩
  have hk' := hk
  unfold okP at hk'
  by_cases c : k < 5 ∨ k = 6 ∨ 64 ≤ k
  · have w := la_out hk c
    rw [F.1 _ _ (by unfold eBk; omega), ← A.1 k hk]
    unfold backR
    by_cases c6 : k = 6
    · subst c6
      rw [if_pos (by decide)]
      exact e6
    · rw [if_neg (by omega)]
  unfold backR
  rw [if_pos (by omega)]
  by_cases c5 : k = 5
  · subst c5
    exact e5.symm
  by_cases c7 : k < 15
  · have w := la_7 (c := k - 7) (by omega)
    rw [show 7 + (k - 7) = k by omega] at w
    rw [w.1, w.2, e7 _ (by omega) (by omega)]
    congr 1
    omega
  by_cases c15 : k < 23
  · have w := la_15 (c := k - 15) (by omega)
    rw [show 15 + (k - 15) = k by omega] at w
    rw [w.1, w.2, e8 _ (by omega) (by omega)]
    congr 1
    omega
  by_cases c23 : k < 31
  · have w := la_23 (c := k - 23) (by omega)
    rw [show 23 + (k - 23) = k by omega] at w
    rw [w.1, w.2, e9 _ (by omega) (by omega)]
    congr 1
    omega
  · have w := la_39 (c := k - 39) (by omega)
    rw [show 39 + (k - 39) = k by omega] at w
    rw [w.1, w.2, e10 _ (by omega) (by omega)]
    congr 1
    omega
/-- the class goes back to index m -/
theorem c_X6_backTo {dd b : Nat} {Q : Option AV → AH → Prop} {h : AH} {r u : Int → Int} {m : Int} (A : RA h 1 r) (hm : 0 ≤ m ∧ m < gi h 41 1) (hc : gi h 41 1 ≤ 256) (V : InvR (backR r u)) (e5 : gi h 42 (51 * m + 1) = u 0) (e6 : u 1 = r 6) (e7 : ∀ i, 0 ≤ i → i < 24 → gi h 42 (51 * m + 2 + i) = u (2 + i)) (e10 : ∀ i, 0 ≤ i → i < 25 → gi h 42 (51 * m + 26 + i) = u (34 + i))
    (hQ : ∀ h', RA h' 1 (backR r u) → FrX eBk h h' → gi h' 41 1 = m → Q (some (vI (gi h 42 (51 * m)))) h') : WM GX (dd + 1) b mX6_backTo [vR (some 41), vI m, vR (some 1)] h Q := by
  refine w_X6_backTo ⟨fun z => by omega, fun _ => ⟨fun _ => ?_, fun z => by omega⟩⟩
  rw [Int.mul_comm m 51]
  refine ⟨by omega, by omega, by omega, fun h1 q1 => ⟨by omega, by omega, by omega, by omega, fun h2 q2 => ⟨by omega, by omega, by omega, by omega, by omega, fun h3 q3 => ⟨by omega, by omega, by omega, by omega, by omega, fun h4 q4 => ⟨by omega, by omega, by omega, by omega, by omega, fun h5 q5 h6 q6 => ⟨by omega, ?_⟩⟩⟩⟩⟩⟩
  have F : FrX eBk h h6 := by
    subst q6 q5 q4 q3 q2 q1
    exact (((((FrX.rfl'.wi (by unfold eBk; omega)).wc (by unfold eBk; omega)).wc (by unfold eBk; omega)).wc (by unfold eBk; omega)).wc (by unfold eBk; omega)).wi (by unfold eBk; omega)
  have ek : gi h5 42 (51 * m) = gi h 42 (51 * m) := by
    subst q5 q4 q3 q2 q1
    simp (disch := omega) only [cpy_out, gi_ne]
  rw [ek]
  refine hQ h6 (A.back F V ?_ e6 (fun i i0 i1 => ?_) (fun i i0 i1 => ?_) (fun i i0 i1 => ?_) (fun i i0 i1 => ?_)) F (by rw [q6, gi_eq])
  · rw [← e5]
    subst q6 q5 q4 q3 q2 q1
    simp (disch := omega) only [cpy_out, gi_ne, gi_eq]
  · rw [← e7 _ (by omega) (by omega)]
    subst q6 q5 q4 q3 q2 q1
    simp (disch := omega) only [cpy_out, gi_ne, cpy_in]
    congr 1
    omega
  · rw [show 10 + i = 2 + (8 + i) by omega, ← e7 _ (by omega) (by omega)]
    subst q6 q5 q4 q3 q2 q1
    simp (disch := omega) only [cpy_out, gi_ne, cpy_in]
    congr 1
    omega
  · rw [show 18 + i = 2 + (16 + i) by omega, ← e7 _ (by omega) (by omega)]
    subst q6 q5 q4 q3 q2 q1
    simp (disch := omega) only [cpy_out, gi_ne, cpy_in]
    congr 1
    omega
  · rw [← e10 _ i0 i1]
    subst q6 q5 q4 q3 q2 q1
    simp (disch := omega) only [cpy_out, gi_ne, cpy_in]
    congr 1
    omega
theorem backR_cpy {h : AH} {m : Int} : gi (cpy h 5 m 2 5 59) 2 = backR (gi h 2) (fun i => gi h 5 (m + i)) := by
  funext k
  rw [gi_cpy]
  unfold backR
  by_cases c : 5 ≤ k ∧ k < 64
  · rw [if_pos (by omega), if_pos c]
  · rw [if_neg (by omega), if_neg c]
theorem backR_o {r u : Int → Int} (e6 : u 1 = r 6) : Out r (backR r u) := fun k hk => by
  unfold backR
  by_cases c6 : k = 6
  · subst c6
    rw [if_pos (by decide)]
    exact e6
  · rw [if_neg (by omega)]
theorem eBk_D : ∀ q k, eBk q k → eDX q k := fun q k z => by
  unfold eBk at z
  unfold eDX EI
  omega
theorem q_undo {n dx dm : Nat} {hX hM : AH} {Q : Option AV → AH → Prop} (R : RR n hX hM) (hn : n < 512) (hQ : ∀ rx hX', WM GM (dm + 1) 0 mX8_undo [vR (some 0)] hM (fun rm hM' => RQ n rx rm hX' hM') → Q rx hX') : WM GX (dx + 2) 0 mX7_undo [vR (some 0)] hX Q := by
  have S := R.s.same SameX.rfl' (km0 (h := hM)).1
  obtain ⟨u1, u2, u3, u4⟩ := R.2.1
  refine w_X7_undo ⟨fun z => ⟨S.b5, fun h3 e3 => ?_⟩, fun z => ⟨by omega, ?_⟩⟩
  · subst e3
    refine hQ _ _ (w_X8_undo fun h1 e1 => ⟨fun _ => ⟨by decide, ?_, fun h5 e5 => ?_⟩, fun w => by omega⟩)
    · subst e1
      exact S.b7
    · subst e5 e1
      exact RQ.mk rfl (S.ref hn (by omega))
  · obtain ⟨a1, a2, a3, a4, a5, a6⟩ := u4 (gi hM 0 8 - 1) (by omega) (by omega)
    have em : gi hX 41 1 - 1 = gi hM 0 8 - 1 := by omega
    rw [em]
    refine c_X6_backTo (u := fun i => gi hM 5 (59 * (gi hM 0 8 - 1) + i)) R.1 (by omega) (by omega) a6 (by rw [a2]; show _ = gi hM 5 (59 * (gi hM 0 8 - 1) + 0); rw [Int.add_zero]) a3 (fun i i0 i1 => by rw [a4 i i0 i1, Int.add_assoc]) (fun i i0 i1 => by rw [a5 i i0 i1, Int.add_assoc]) (fun h1 B F n1 => ⟨_, rfl, fun h2 e2 => ?_⟩)
    subst e2
    refine hQ _ _ (w_X8_undo fun g1 e1 => ⟨fun w => by omega, fun _ => ⟨by omega, fun g2 e2 => c_X8_putBack (by omega) ⟨rfl, ?_⟩⟩⟩)
    subst e2 e1
    rw [cpy_out (by omega), gi_eq, cpy_out (by omega), gi_ne (by omega), gi_ne (by omega)]
    have G : FrM eD (si hM 0 0 0) (cpy (si (si hM 0 0 0) 0 8 (gi hM 0 8 - 1)) 5 (59 * (gi hM 0 8 - 1)) 2 5 59) := (FrM.rfl'.wi (by unfold eD; omega)).wc (by unfold eD; omega)
    have er : gi (cpy (si (si hM 0 0 0) 0 8 (gi hM 0 8 - 1)) 5 (59 * (gi hM 0 8 - 1)) 2 5 59) 2 = backR (gi hM 2) (fun i => gi hM 5 (59 * (gi hM 0 8 - 1) + i)) := by
      rw [backR_cpy, gi_o (by decide), gi_o (by decide), gi_o (a := 0) (q := 5) (by decide), gi_o (a := 0) (q := 5) (by decide)]
    have O : Out (gi hM 2) (backR (gi hM 2) (fun i => gi hM 5 (59 * (gi hM 0 8 - 1) + i))) := backR_o a3
    have S' : RRs n h1 (cpy (si (si hM 0 0 0) 0 8 (gi hM 0 8 - 1)) 5 (59 * (gi hM 0 8 - 1)) 2 5 59) := by
      refine S.deed (by rw [er]; exact B) ⟨?_, ?_, ?_, fun j j0 j1 => ?_⟩ (F.mono eBk_D) G
      · rw [n1, cpy_out (by omega), gi_eq]
      · rw [cpy_out (by omega), gi_eq]
        omega
      · rw [cpy_out (by omega), gi_eq]
        omega
      · rw [cpy_out (by omega), gi_eq] at j1
        have x : ∀ k, gi h1 42 k = gi hX 42 k := fun k => F.1 _ _ (by unfold eBk; omega)
        have m5 : ∀ k, gi (cpy (si (si hM 0 0 0) 0 8 (gi hM 0 8 - 1)) 5 (59 * (gi hM 0 8 - 1)) 2 5 59) 5 k = gi hM 5 k := fun k => by rw [cpy_out (by omega), gi_ne (by omega), gi_ne (by omega)]
        have m6 : ∀ k, gi (cpy (si (si hM 0 0 0) 0 8 (gi hM 0 8 - 1)) 5 (59 * (gi hM 0 8 - 1)) 2 5 59) 6 k = gi hM 6 k := fun k => by rw [cpy_out (by omega), gi_ne (by omega), gi_ne (by omega)]
        rw [er]
        simp only [x, m5, m6]
        rw [O 6 (by omega), backR_out O]
        exact u4 j j0 (by omega)
    refine ⟨by omega, by omega, S'.b7, fun h4 e4 => ?_⟩
    subst e4
    exact RQ.mk a1.1 (S'.ok hn a1.2.1)
