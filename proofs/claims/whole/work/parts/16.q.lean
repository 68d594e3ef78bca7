theorem q_foam {n dx dm : Nat} {hX hM : AH} {Q : Option AV → AH → Prop} (R : RR n hX hM) (hn : n < 512) (hQ : ∀ rx hX', WM GM dm 0 mX8_foam [vR (some 0)] hM (fun rm hM' => RQ n rx rm hX' hM') → Q rx hX') : WM GX dx 0 mX7_foam [vR (some 0)] hX Q := by
  refine w_X7_foam (hQ _ _ (w_X8_foam ?_))
  intro h1 e1
  subst e1
  exact RQ.mk R.2.2.2.2.1.2.2.1 (R.nxt hn SameX.rfl' (SameM.rfl'.si (by unfold coreM; omega)) rfl (gi_nk (by decide)))

theorem q_fault {n dx dm : Nat} {hX hM : AH} {Q : Option AV → AH → Prop} (R : RR n hX hM) (hn : n < 512) (hQ : ∀ rx hX', WM GM dm 0 mX8_fault [vR (some 0)] hM (fun rm hM' => RQ n rx rm hX' hM') → Q rx hX') : WM GX dx 0 mX7_fault [vR (some 0)] hX Q := by
  refine w_X7_fault (hQ _ _ (w_X8_fault ?_))
  intro h1 e1
  subst e1
  exact RQ.mk R.2.2.2.2.1.2.1 (R.nxt hn SameX.rfl' (SameM.rfl'.si (by unfold coreM; omega)) rfl (gi_nk (by decide)))

theorem q_stopped {n dx dm : Nat} {hX hM : AH} {Q : Option AV → AH → Prop} (R : RR n hX hM) (hn : n < 512) (hQ : ∀ rx hX', WM GM dm 0 mX8_stopped [vR (some 0)] hM (fun rm hM' => RQ n rx rm hX' hM') → Q rx hX') : WM GX dx 0 mX7_stopped [vR (some 0)] hX Q := by
  refine w_X7_stopped (hQ _ _ (w_X8_stopped ?_))
  intro h1 e1
  subst e1
  exact RQ.mk R.2.2.2.2.1.2.2.2.1 (R.nxt hn SameX.rfl' (SameM.rfl'.si (by unfold coreM; omega)) rfl (gi_nk (by decide)))

theorem q_status {n dx dm : Nat} {hX hM : AH} {Q : Option AV → AH → Prop} (R : RR n hX hM) (hn : n < 512) (hQ : ∀ rx hX', WM GM dm 0 mX8_status [vR (some 0)] hM (fun rm hM' => RQ n rx rm hX' hM') → Q rx hX') : WM GX dx 0 mX7_status [vR (some 0)] hX Q := by
  refine w_X7_status (hQ _ _ (w_X8_status ?_))
  intro h1 e1
  subst e1
  exact RQ.mk R.2.2.2.2.1.2.2.2.2.1 (R.nxt hn SameX.rfl' (SameM.rfl'.si (by unfold coreM; omega)) rfl (gi_nk (by decide)))

theorem q_end {n dx dm : Nat} {hX hM : AH} {Q : Option AV → AH → Prop} {x1 : Int} (R : RR n hX hM) (hn : n < 512) (hQ : ∀ rx hX', WM GM dm 0 mX8_end [vR (some 0), vI x1] hM (fun rm hM' => RQ n rx rm hX' hM') → Q rx hX') : WM GX dx 0 mX7_end [vR (some 0), vI x1] hX Q := by
  have T := R.2.2.2.2.1.1
  refine w_X7_end ?_
  intro r1
  refine ⟨fun c => hQ _ _ (w_X8_end ?_), fun c => ⟨fun c1 h1 e1 => hQ _ _ (w_X8_end ?_), fun c1 => hQ _ _ (w_X8_end ?_)⟩⟩
  · intro r1 h1 e1
    subst e1
    exact ⟨fun _ => RQ.mk rfl (R.nxt hn SameX.rfl' (SameM.rfl'.si (by unfold coreM; omega)) rfl (gi_nk (by decide))), fun z => by omega⟩
  · intro r1 h2 e2
    subst e1
    subst e2
    exact ⟨fun z => by omega, fun _ => ⟨fun z h3 e3 => by subst e3; exact RQ.mk rfl (R.tape hn (by omega) (by omega)), fun z => by omega⟩⟩
  · intro r1 h1 e1
    subst e1
    exact ⟨fun z => by omega, fun _ => ⟨fun z => by omega, fun z => RQ.mk rfl (R.nxt hn SameX.rfl' (SameM.rfl'.si (by unfold coreM; omega)) rfl (gi_nk (by decide)))⟩⟩

theorem q_house {n dx dm : Nat} {hX hM : AH} {Q : Option AV → AH → Prop} {x1 : Int} (R : RR n hX hM) (hn : n < 512) (hQ : ∀ rx hX', WM GM (dm + 1) 0 mX8_house [vR (some 0), vI x1] hM (fun rm hM' => RQ n rx rm hX' hM') → Q rx hX') : WM GX (dx + 1) 0 mX7_house [vR (some 0), vI x1] hX Q := by
  have S := R.s
  have VV : InvR (gi (si hM 0 0 0) 2) := by rw [m2f]; exact S.1.2.2
  have B5 := S.b5
  have B7 := S.b7
  have e0 := S.1.1.houses
  have v0 : 0 ≤ gi hM 2 0 ∧ gi hM 2 0 ≤ 8 := ⟨S.1.2.2.1.1, S.1.2.2.1.2.1⟩
  refine w_X7_house ?_
  (repeat' (first | exact B5 | exact B7 | exact VV | refine And.intro ?_ ?_ | (intro (hh : AH) c; subst c) | intro c))
  all_goals try omega
  all_goals refine hQ _ _ (w_X8_house ?_)
  all_goals (repeat' (first | exact B5 | exact B7 | exact VV | refine And.intro ?_ ?_ | (intro (hh : AH) c; subst c) | intro c))
  all_goals try simp (disch := omega) only [m2, m2f, gi_nk] at *
  all_goals try omega
  · exact RQ.mk rfl ((S.same SameX.rfl' (SameM.rfl'.si (by unfold coreM; omega))).ref hn (by omega))
  · refine RQ.mk (by omega) (RRs.ok ?_ hn (by omega))
    exact S.house (s := x1) (by omega) (by omega)
  · exact RQ.mk rfl ((S.same SameX.rfl' (SameM.rfl'.si (by unfold coreM; omega))).ref hn (by omega))
  · exact RQ.mk rfl ((S.same SameX.rfl' (SameM.rfl'.si (by unfold coreM; omega))).ref hn (by omega))

theorem q_foe {n dx dm : Nat} {hX hM : AH} {Q : Option AV → AH → Prop} {x1 : Int} (R : RR n hX hM) (hn : n < 512) (hQ : ∀ rx hX', WM GM (dm + 1) 0 mX8_foe [vR (some 0), vI x1] hM (fun rm hM' => RQ n rx rm hX' hM') → Q rx hX') : WM GX (dx + 1) 0 mX7_foe [vR (some 0), vI x1] hX Q := by
  have S := R.s
  have VV : InvR (gi (si hM 0 0 0) 2) := by rw [m2f]; exact S.1.2.2
  have B5 := S.b5
  have B7 := S.b7
  have e2 := S.1.1.foes
  have v2 : 0 ≤ gi hM 2 2 ∧ gi hM 2 2 ≤ 8 := ⟨S.1.2.2.1.2.2.2.2.1, S.1.2.2.1.2.2.2.2.2.1⟩
  refine w_X7_foe ?_
  (repeat' (first | exact B5 | exact B7 | exact VV | refine And.intro ?_ ?_ | (intro (hh : AH) c; subst c) | intro c))
  all_goals try omega
  all_goals refine hQ _ _ (w_X8_foe ?_)
  all_goals (repeat' (first | exact B5 | exact B7 | exact VV | refine And.intro ?_ ?_ | (intro (hh : AH) c; subst c) | intro c))
  all_goals try simp (disch := omega) only [m2, m2f, gi_nk] at *
  all_goals try omega
  · exact RQ.mk rfl ((S.same SameX.rfl' (SameM.rfl'.si (by unfold coreM; omega))).ref hn (by omega))
  · refine RQ.mk (by omega) (RRs.ok ?_ hn (by omega))
    exact S.foe (s := x1) (by omega) (by omega)
  · exact RQ.mk rfl ((S.same SameX.rfl' (SameM.rfl'.si (by unfold coreM; omega))).ref hn (by omega))
  · exact RQ.mk rfl ((S.same SameX.rfl' (SameM.rfl'.si (by unfold coreM; omega))).ref hn (by omega))

theorem q_peace {n dx dm : Nat} {hX hM : AH} {Q : Option AV → AH → Prop} (R : RR n hX hM) (hn : n < 512) (hQ : ∀ rx hX', WM GM dm 0 mX8_peace [vR (some 0)] hM (fun rm hM' => RQ n rx rm hX' hM') → Q rx hX') : WM GX dx 0 mX7_peace [vR (some 0)] hX Q := by
  have S := R.s
  refine w_X7_peace ?_
  intro h1 e1
  subst e1
  refine hQ _ _ (w_X8_peace ?_)
  intro h1 e1 h2 e2
  subst e2
  subst e1
  exact RQ.mk S.1.1.foes.symm (((S.num (k := 2) (i := 12) (v := 0) (by omega) rfl (fun r V _ => V.peace)).up hn).r (by rw [gi_no (by decide), gi_no (by decide), gi_nk (by decide)]; exact R.st))

theorem q_force {n dx dm : Nat} {hX hM : AH} {Q : Option AV → AH → Prop} {x1 : Int} (R : RR n hX hM) (hn : n < 512) (hQ : ∀ rx hX', WM GM (dm + 1) 0 mX8_force [vR (some 0), vI x1] hM (fun rm hM' => RQ n rx rm hX' hM') → Q rx hX') : WM GX (dx + 1) 0 mX7_force [vR (some 0), vI x1] hX Q := by
  have S := R.s
  have VV : InvR (gi (si hM 0 0 0) 2) := by rw [m2f]; exact S.1.2.2
  have B5 := S.b5
  have B7 := S.b7
  have e3 := S.1.1.laws
  have v3 : 0 ≤ gi hM 2 3 ∧ gi hM 2 3 ≤ 6 := ⟨S.1.2.2.1.2.2.2.2.2.2.1, S.1.2.2.1.2.2.2.2.2.2.2.1⟩
  have e4 := S.1.1.force
  refine w_X7_force ?_
  (repeat' (first | exact B5 | exact B7 | exact VV | refine And.intro ?_ ?_ | (intro (hh : AH) c; subst c) | intro c))
  all_goals try omega
  all_goals refine hQ _ _ (w_X8_force ?_)
  all_goals (repeat' (first | exact B5 | exact B7 | exact VV | refine And.intro ?_ ?_ | (intro (hh : AH) c; subst c) | intro c))
  all_goals try simp (disch := omega) only [m2, m2f, gi_nk] at *
  all_goals try omega
  · exact RQ.mk rfl ((S.same SameX.rfl' (SameM.rfl'.si (by unfold coreM; omega))).ref hn (by omega))
  · refine RQ.mk e4.symm (RRs.okc (S.num (k := 4) (i := 18) (by omega) rfl (fun r V e => V.force ?_)) hn)
    rw [e 3 (by omega)]
    omega
  · refine RQ.mk e4.symm (RRs.okc (S.num (k := 4) (i := 18) (by omega) rfl (fun r V e => V.force ?_)) hn)
    rw [e 3 (by omega)]
    omega
  · exact RQ.mk rfl ((S.same SameX.rfl' (SameM.rfl'.si (by unfold coreM; omega))).ref hn (by omega))

theorem q_put {n dx dm : Nat} {hX hM : AH} {Q : Option AV → AH → Prop} {x1 x2 x3 : Int} (R : RR n hX hM) (hn : n < 512) (hQ : ∀ rx hX', WM GM (dm + 2) 0 mX8_put [vR (some 0), vI x1, vI x2, vI x3] hM (fun rm hM' => RQ n rx rm hX' hM') → Q rx hX') : WM GX (dx + 1) 0 mX7_put [vR (some 0), vI x1, vI x2, vI x3] hX Q := by
  have S := R.s
  have VV : InvR (gi (si hM 0 0 0) 2) := by rw [m2f]; exact S.1.2.2
  have B5 := S.b5
  have B7 := S.b7
  refine w_X7_put ?_
  (repeat' (first | exact B5 | exact B7 | exact VV | refine And.intro ?_ ?_ | (intro (hh : AH) c; subst c) | intro c))
  all_goals try omega
  all_goals refine hQ _ _ (w_X8_put ?_)
  all_goals (repeat' (first | exact B5 | exact B7 | exact VV | refine And.intro ?_ ?_ | (intro (hh : AH) c; subst c) | intro c))
  all_goals try omega
  · exact RQ.mk rfl ((S.same SameX.rfl' (SameM.rfl'.si (by unfold coreM; omega))).ref hn (by omega))
  · rw [m2, m2]
    obtain ⟨p1, p2⟩ := la_39 (c := x1) (by omega)
    refine RQ.mk (S.1.1.fish (d := x1) (by omega)).symm (RRs.okc (S.clr ⟨by unfold okP; omega, by omega⟩ (by rw [p1]) p2.symm (S.1.2.2.fish (by omega) (by omega))) hn)
  · exact RQ.mk rfl ((S.same SameX.rfl' (SameM.rfl'.si (by unfold coreM; omega))).ref hn (by omega))
  · rw [m2, m2]
    obtain ⟨p1, p2⟩ := la_104 (c := x1) (by omega)
    refine RQ.mk (S.1.1.drift (d := x1) (by omega)).symm (RRs.okc (S.clr ⟨by unfold okP; omega, by omega⟩ (by rw [p1]) p2.symm (S.1.2.2.drift (by omega) (by omega))) hn)
  · exact RQ.mk rfl ((S.same SameX.rfl' (SameM.rfl'.si (by unfold coreM; omega))).ref hn (by omega))
  · exact RQ.mk rfl ((S.same SameX.rfl' (SameM.rfl'.si (by unfold coreM; omega))).ref hn (by omega))
  · exact RQ.mk rfl ((S.same SameX.rfl' (SameM.rfl'.si (by unfold coreM; omega))).ref hn (by omega))

theorem q_terms {n dx dm : Nat} {hX hM : AH} {Q : Option AV → AH → Prop} {x1 x2 : Int} (R : RR n hX hM) (hn : n < 512) (hQ : ∀ rx hX', WM GM (dm + 1) 0 mX8_terms [vR (some 0), vI x1, vI x2] hM (fun rm hM' => RQ n rx rm hX' hM') → Q rx hX') : WM GX (dx + 1) 0 mX7_terms [vR (some 0), vI x1, vI x2] hX Q := by
  have S := R.s
  have VV : InvR (gi (si hM 0 0 0) 2) := by rw [m2f]; exact S.1.2.2
  have B5 := S.b5
  have B7 := S.b7
  have e5 := S.1.1.day
  have v5 : 0 ≤ gi hM 2 5 ∧ gi hM 2 5 ≤ 999 := by have := S.1.2.2.1; omega
  have e6 := S.1.1.mood
  have v6 : 0 ≤ gi hM 2 6 ∧ gi hM 2 6 ≤ 9 := by have := S.1.2.2.1; omega
  refine w_X7_terms ?_
  (repeat' (first | exact B5 | exact B7 | exact VV | refine And.intro ?_ ?_ | (intro (hh : AH) c; subst c) | intro c))
  all_goals try omega
  all_goals refine hQ _ _ (w_X8_terms ?_)
  all_goals (repeat' (first | exact B5 | exact B7 | exact VV | refine And.intro ?_ ?_ | (intro (hh : AH) c; subst c) | intro c))
  all_goals try omega
  · exact RQ.mk rfl ((S.same SameX.rfl' (SameM.rfl'.si (by unfold coreM; omega))).ref hn (by omega))
  · exact RQ.mk rfl ((S.same SameX.rfl' (SameM.rfl'.si (by unfold coreM; omega))).ref hn (by omega))
  · obtain rfl : x1 = 0 := by assumption
    rw [m2, m2]
    exact RQ.mk e5.symm (RRs.okc (S.clr (k := 5 + 0) ⟨by unfold okP; omega, by omega⟩ rfl rfl (S.1.2.2.day (by omega))) hn)
  · exact RQ.mk rfl ((S.same SameX.rfl' (SameM.rfl'.si (by unfold coreM; omega))).ref hn (by omega))
  · exact RQ.mk rfl ((S.same SameX.rfl' (SameM.rfl'.si (by unfold coreM; omega))).ref hn (by omega))
  · obtain rfl : x1 = 1 := by assumption
    rw [m2, m2]
    exact RQ.mk e6.symm (RRs.okc (S.clr (k := 5 + 1) ⟨by unfold okP; omega, by omega⟩ rfl rfl (S.1.2.2.mood (by omega))) hn)
  · exact RQ.mk rfl ((S.same SameX.rfl' (SameM.rfl'.si (by unfold coreM; omega))).ref hn (by omega))

theorem q_at {n dx dm : Nat} {hX hM : AH} {Q : Option AV → AH → Prop} {x1 x2 : Int} (R : RR n hX hM) (hn : n < 512) (hQ : ∀ rx hX', WM GM (dm + 2) 0 mX8_at [vR (some 0), vI x1, vI x2] hM (fun rm hM' => RQ n rx rm hX' hM') → Q rx hX') : WM GX (dx + 1) 0 mX7_at [vR (some 0), vI x1, vI x2] hX Q := by
  have S := R.s
  have VV : InvR (gi (si hM 0 0 0) 2) := by rw [m2f]; exact S.1.2.2
  have B5 := S.b5
  have B7 := S.b7
  have e1 := S.1.1.doors
  have v1 : 0 ≤ gi hM 2 1 ∧ gi hM 2 1 ≤ 8 := ⟨S.1.2.2.1.2.2.1, S.1.2.2.1.2.2.2.1⟩
  refine w_X7_at ?_
  (repeat' (first | exact B5 | exact B7 | exact VV | refine And.intro ?_ ?_ | (intro (hh : AH) c; subst c) | (refine lp_atX (by omega) (gi hX 1 2).toNat 0 0 (by omega) (by omega) (by omega) (by omega) ?_) | intro c))
  all_goals try omega
  all_goals refine hQ _ _ (w_X8_at ?_)
  all_goals (repeat' (first | exact B5 | exact B7 | exact VV | refine And.intro ?_ ?_ | (intro (hh : AH) c; subst c) | (refine lp_atM (by rw [m2]; omega) (gi hM 2 1).toNat 0 0 (by omega) (by rw [m2]; omega) (by omega) (by omega) ?_) | intro c))
  all_goals try omega
  · exact RQ.mk (S.1.1.fish (d := x1) (by omega)).symm (R.nxt hn SameX.rfl' (SameM.rfl'.si (by unfold coreM; omega)) rfl (gi_nk (by decide)))
  · exact RQ.mk (S.1.1.drift (d := x1) (by omega)).symm (R.nxt hn SameX.rfl' (SameM.rfl'.si (by unfold coreM; omega)) rfl (gi_nk (by decide)))
  · refine RQ.mk ?_ (R.nxt hn SameX.rfl' (SameM.rfl'.si (by unfold coreM; omega)) rfl (gi_nk (by decide)))
    rw [e1]
    refine congrArg (fun z => 0 + z) (sumZ_congr _ _ (fun j j0 j1 => ?_))
    have := S.1.1.cell (d := j) (by omega)
    rw [m2, this]
  · exact RQ.mk rfl (R.nxt hn SameX.rfl' (SameM.rfl'.si (by unfold coreM; omega)) rfl (gi_nk (by decide)))
  · exact RQ.mk rfl (R.nxt hn SameX.rfl' (SameM.rfl'.si (by unfold coreM; omega)) rfl (gi_nk (by decide)))

theorem q_count {n dx dm : Nat} {hX hM : AH} {Q : Option AV → AH → Prop} {x1 : Int} (R : RR n hX hM) (hn : n < 512) (hQ : ∀ rx hX', WM GM (dm + 2) 0 mX8_count [vR (some 0), vI x1] hM (fun rm hM' => RQ n rx rm hX' hM') → Q rx hX') : WM GX (dx + 2) 0 mX7_count [vR (some 0), vI x1] hX Q := by
  have S := R.s
  have VV : InvR (gi (si hM 0 0 0) 2) := by rw [m2f]; exact S.1.2.2
  have B5 := S.b5
  have B7 := S.b7
  have e0 := S.1.1.houses
  have v0 : 0 ≤ gi hM 2 0 ∧ gi hM 2 0 ≤ 8 := ⟨S.1.2.2.1.1, S.1.2.2.1.2.1⟩
  have e1 := S.1.1.doors
  have v1 : 0 ≤ gi hM 2 1 ∧ gi hM 2 1 ≤ 8 := ⟨S.1.2.2.1.2.2.1, S.1.2.2.1.2.2.2.1⟩
  have e2 := S.1.1.foes
  have v2 : 0 ≤ gi hM 2 2 ∧ gi hM 2 2 ≤ 8 := ⟨S.1.2.2.1.2.2.2.2.1, S.1.2.2.1.2.2.2.2.2.1⟩
  have e3 := S.1.1.laws
  have v3 : 0 ≤ gi hM 2 3 ∧ gi hM 2 3 ≤ 6 := ⟨S.1.2.2.1.2.2.2.2.2.2.1, S.1.2.2.1.2.2.2.2.2.2.2.1⟩
  have e4 := S.1.1.force
  have e5 := S.1.1.day
  have v5 : 0 ≤ gi hM 2 5 ∧ gi hM 2 5 ≤ 999 := by have := S.1.2.2.1; omega
  have e6 := S.1.1.mood
  have v6 : 0 ≤ gi hM 2 6 ∧ gi hM 2 6 ≤ 9 := by have := S.1.2.2.1; omega
  have T := R.2.2.2.2.1.1.1
  have U := R.2.1.1
  obtain ⟨c8, c9, c10, c11, c12⟩ := R.2.2.2.2.1.2.2.2.2.2.1
  have W : ∀ j : Int, 0 ≤ j → j < gi hM 2 1 → gi hM 2 (7 + j) = gi hX 7 j ∧ gi hM 2 (15 + j) = gi hX 8 j := fun j j0 j1 => ⟨S.1.1.hangs (by omega), S.1.1.cell (by omega)⟩
  have o1 : sumZ (fun i => b2i (dIn (gi hX 7) i (gi hX 1 2).toNat 0 = -1)) (gi hX 1 0).toNat 0 = sumZ (fun i => b2i (dOf (gi hM 2) i = -1)) (gi hM 2 0).toNat 0 := by
    rw [e0]
    refine sumZ_congr _ _ (fun j j0 j1 => b2i_c ?_)
    unfold dOf
    rw [e1, dIn_congr (f := fun i => gi hM 2 (7 + i)) (g := gi hX 7) _ _ (fun k k0 k1 => (W k (by omega) (by omega)).1)]
  have o2 : sumZ (fun i => b2i (gi hX 7 i = -1 ∧ gi hX 8 i = -1)) (gi hX 1 2).toNat 0 = sumZ (fun i => gi hM 2 (31 + i)) (gi hM 2 1).toNat 0 := by
    rw [e1]
    refine sumZ_congr _ _ (fun j j0 j1 => ?_)
    have w := W j j0 (by omega)
    have v := S.1.2.2.2.1 j j0 (by omega)
    have v2 := v.2.2.2.2.2.2.2.1
    by_cases c : gi hX 7 j = -1 ∧ gi hX 8 j = -1
    · rw [b2i_t c]; omega
    · rw [b2i_f c]; omega
  refine w_X7_count ?_
  (repeat' (first | exact B5 | exact B7 | exact VV | refine And.intro ?_ ?_ | (intro (hh : AH) c; subst c) | intro c))
  all_goals try omega
  all_goals refine hQ _ _ (w_X8_count ?_)
  all_goals (repeat' (first | exact B5 | exact B7 | exact VV | refine And.intro ?_ ?_ | (intro (hh : AH) c; subst c) | intro c))
  all_goals try omega
  · exact RQ.mk e0.symm (R.nxt hn SameX.rfl' (SameM.rfl'.si (by unfold coreM; omega)) rfl (gi_nk (by decide)))
  · exact RQ.mk e1.symm (R.nxt hn SameX.rfl' (SameM.rfl'.si (by unfold coreM; omega)) rfl (gi_nk (by decide)))
  · exact RQ.mk e2.symm (R.nxt hn SameX.rfl' (SameM.rfl'.si (by unfold coreM; omega)) rfl (gi_nk (by decide)))
  · refine RQ.mk ?_ (R.nxt hn SameX.rfl' (SameM.rfl'.si (by unfold coreM; omega)) rfl (gi_nk (by decide)))
    rw [o1, m2f]
  · refine RQ.mk ?_ (R.nxt hn SameX.rfl' (SameM.rfl'.si (by unfold coreM; omega)) rfl (gi_nk (by decide)))
    rw [o2, m2f]
  · exact RQ.mk e3.symm (R.nxt hn SameX.rfl' (SameM.rfl'.si (by unfold coreM; omega)) rfl (gi_nk (by decide)))
  · exact RQ.mk U (R.nxt hn SameX.rfl' (SameM.rfl'.si (by unfold coreM; omega)) rfl (gi_nk (by decide)))
  · exact RQ.mk T (R.nxt hn SameX.rfl' (SameM.rfl'.si (by unfold coreM; omega)) rfl (gi_nk (by decide)))
  · exact RQ.mk rfl (R.nxt hn SameX.rfl' (SameM.rfl'.si (by unfold coreM; omega)) rfl (gi_nk (by decide)))
  · exact RQ.mk e4.symm (R.nxt hn SameX.rfl' (SameM.rfl'.si (by unfold coreM; omega)) rfl (gi_nk (by decide)))
  · obtain rfl : x1 = 14 := by assumption
    exact RQ.mk e5.symm (R.nxt hn SameX.rfl' (SameM.rfl'.si (by unfold coreM; omega)) rfl (gi_nk (by decide)))
  · obtain rfl : x1 = 15 := by assumption
    exact RQ.mk e6.symm (R.nxt hn SameX.rfl' (SameM.rfl'.si (by unfold coreM; omega)) rfl (gi_nk (by decide)))
  · exact RQ.mk rfl (R.nxt hn SameX.rfl' (SameM.rfl'.si (by unfold coreM; omega)) rfl (gi_nk (by decide)))
  · obtain rfl : x1 = 8 := by assumption
    exact RQ.mk c8 (R.nxt hn SameX.rfl' (SameM.rfl'.si (by unfold coreM; omega)) rfl (gi_nk (by decide)))
  · obtain rfl : x1 = 9 := by assumption
    exact RQ.mk c9 (R.nxt hn SameX.rfl' (SameM.rfl'.si (by unfold coreM; omega)) rfl (gi_nk (by decide)))
  · obtain rfl : x1 = 10 := by assumption
    exact RQ.mk c10 (R.nxt hn SameX.rfl' (SameM.rfl'.si (by unfold coreM; omega)) rfl (gi_nk (by decide)))
  · obtain rfl : x1 = 11 := by assumption
    exact RQ.mk c11 (R.nxt hn SameX.rfl' (SameM.rfl'.si (by unfold coreM; omega)) rfl (gi_nk (by decide)))
  · obtain rfl : x1 = 12 := by assumption
    exact RQ.mk c12 (R.nxt hn SameX.rfl' (SameM.rfl'.si (by unfold coreM; omega)) rfl (gi_nk (by decide)))

theorem q_door {n dx dm : Nat} {hX hM : AH} {Q : Option AV → AH → Prop} {x1 x2 x3 x4 : Int} (R : RR n hX hM) (hn : n < 512) (hQ : ∀ rx hX', WM GM (dm + 2) 0 mX8_door [vR (some 0), vI x1, vI x2, vI x3, vI x4] hM (fun rm hM' => RQ n rx rm hX' hM') → Q rx hX') : WM GX (dx + 1) 0 mX7_door [vR (some 0), vI x1, vI x2, vI x3, vI x4] hX Q := by
  have S := R.s
  have VV : InvR (gi (si hM 0 0 0) 2) := by rw [m2f]; exact S.1.2.2
  have B5 := S.b5
  have B7 := S.b7
  have e0 := S.1.1.houses
  have v0 : 0 ≤ gi hM 2 0 ∧ gi hM 2 0 ≤ 8 := ⟨S.1.2.2.1.1, S.1.2.2.1.2.1⟩
  have e1 := S.1.1.doors
  have v1 : 0 ≤ gi hM 2 1 ∧ gi hM 2 1 ≤ 8 := ⟨S.1.2.2.1.2.2.1, S.1.2.2.1.2.2.2.1⟩
  have dd : dIn (gi hX 7) x3 (gi hX 1 2).toNat 0 = dOf (gi hM 2) x3 := by
    unfold dOf
    rw [e1]
    exact dIn_congr _ _ (fun k k0 k1 => (S.1.1.hangs (d := k) (by omega)).symm)
  have ds := dOf_spec (r := gi hM 2) (x := x3) v1.1
  refine w_X7_door ?_
  (repeat' (first | exact B5 | exact B7 | exact VV | refine And.intro ?_ ?_ | (intro (hh : AH) c; subst c) | intro c))
  all_goals try omega
  all_goals refine hQ _ _ (w_X8_door ?_)
  all_goals (repeat' (first | exact B5 | exact B7 | exact VV | refine And.intro ?_ ?_ | (intro (hh : AH) c; subst c) | intro c))
  all_goals try simp only [m2, m2f] at *
  all_goals try omega
  · exact RQ.mk rfl ((S.same SameX.rfl' (SameM.rfl'.si (by unfold coreM; omega))).ref hn (by omega))
  · exact RQ.mk rfl ((S.same SameX.rfl' (SameM.rfl'.si (by unfold coreM; omega))).ref hn (by omega))
  · exact RQ.mk rfl ((S.same SameX.rfl' (SameM.rfl'.si (by unfold coreM; omega))).ref hn (by omega))
  · exact RQ.mk rfl ((S.same SameX.rfl' (SameM.rfl'.si (by unfold coreM; omega))).ref hn (by omega))
  · simp (disch := omega) only [gi_nk]
    omega
  · simp (disch := omega) only [gi_nk]
    omega
  · rw [if_neg (by omega)]
    refine RQ.mk e1.symm (RRs.ok ?_ hn (by omega))
    have q := S.door (w := x1) (wd := x2) (hm := x3) (kn := x4) (by omega) (by omega) (by omega) (by omega) (by omega) (ds.resolve_right (by omega)).2
    simp (disch := omega) only [gi_nk]
    exact q
  · exact RQ.mk rfl ((S.same SameX.rfl' (SameM.rfl'.si (by unfold coreM; omega))).ref hn (by omega))
  · exact RQ.mk rfl ((S.same SameX.rfl' (SameM.rfl'.si (by unfold coreM; omega))).ref hn (by omega))
  · exact RQ.mk rfl ((S.same SameX.rfl' (SameM.rfl'.si (by unfold coreM; omega))).ref hn (by omega))
  · exact RQ.mk rfl ((S.same SameX.rfl' (SameM.rfl'.si (by unfold coreM; omega))).ref hn (by omega))
