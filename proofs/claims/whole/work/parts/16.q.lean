theorem q_foam {n dx dm : Nat} {hX hM : AH} {Q : Option AV → AH → Prop} (R : RR n hX hM) (hn : n < 512) (hQ : ∀ rx hX', WM GM dm 0 mX8_foam [vR (some 0)] hM (fun rm hM' => RQ n rx rm hX' hM') → Q rx hX') : WM GX dx 0 mX7_foam [vR (some 0)] hX Q := by
  refine w_X7_foam (hQ _ _ (w_X8_foam ?_))
  intro h1 e1
  subst e1
  exact RQ.mk R.2.2.2.2.1.2.2.1 (R.nxt hn SameX.rfl' (SameM.rfl'.si (by unfold coreM; omega)) rfl (gi_nk (by decide)))

theorem q_fault {n dx dm : Nat} {hX hM : AH} {Q : Option AV → AH → Prop} (R : RR n hX hM) (hn : n < 512) (hQ : ∀ rx hX', WM GM dm 0 mX8_fault [vR (some 0)] hM (fun rm hM' => RQ n rx rm hX' hM') → Q rx hX') : WM GX dx 0 mX7_fault [vR (some 0)] hX Q := by
  refine w_X7_fault (hQ _ _ (w_X8_fault ?_))
  intro h1 e1
  subst e1
  exact RQ.mk R.2.2.2.2.1.2.1 (R.nxt hn SameX.rfl' (SameM.rfl'.si (by unfold coreM; omega)) rfl (gi_nk (by decide)))

theorem q_stopped {n dx dm : Nat} {hX hM : AH} {Q : Option AV → AH → Prop} (R : RR n hX hM) (hn : n < 512) (hQ : ∀ rx hX', WM GM dm 0 mX8_stopped [vR (some 0)] hM (fun rm hM' => RQ n rx rm hX' hM') → Q rx hX') : WM GX dx 0 mX7_stopped [vR (some 0)] hX Q := by
  refine w_X7_stopped (hQ _ _ (w_X8_stopped ?_))
  intro h1 e1
  subst e1
  exact RQ.mk R.2.2.2.2.1.2.2.2.1 (R.nxt hn SameX.rfl' (SameM.rfl'.si (by unfold coreM; omega)) rfl (gi_nk (by decide)))

theorem q_status {n dx dm : Nat} {hX hM : AH} {Q : Option AV → AH → Prop} (R : RR n hX hM) (hn : n < 512) (hQ : ∀ rx hX', WM GM dm 0 mX8_status [vR (some 0)] hM (fun rm hM' => RQ n rx rm hX' hM') → Q rx hX') : WM GX dx 0 mX7_status [vR (some 0)] hX Q := by
  refine w_X7_status (hQ _ _ (w_X8_status ?_))
  intro h1 e1
  subst e1
  exact RQ.mk R.2.2.2.2.1.2.2.2.2.1 (R.nxt hn SameX.rfl' (SameM.rfl'.si (by unfold coreM; omega)) rfl (gi_nk (by decide)))

theorem q_end {n dx dm : Nat} {hX hM : AH} {Q : Option AV → AH → Prop} {x1 : Int} (R : RR n hX hM) (hn : n < 512) (hQ : ∀ rx hX', WM GM dm 0 mX8_end [vR (some 0), vI x1] hM (fun rm hM' => RQ n rx rm hX' hM') → Q rx hX') : WM GX dx 0 mX7_end [vR (some 0), vI x1] hX Q := by
  have T := R.2.2.2.2.1.1
  refine w_X7_end ?_
  intro r1
  refine ⟨fun c => hQ _ _ (w_X8_end ?_), fun c => ⟨fun c1 h1 e1 => hQ _ _ (w_X8_end ?_), fun c1 => hQ _ _ (w_X8_end ?_)⟩⟩
  · intro r1 h1 e1
    subst e1
    exact ⟨fun _ => RQ.mk rfl (R.nxt hn SameX.rfl' (SameM.rfl'.si (by unfold coreM; omega)) rfl (gi_nk (by decide))), fun z => by omega⟩
  · intro r1 h2 e2
    subst e1
    subst e2
    exact ⟨fun z => by omega, fun _ => ⟨fun z h3 e3 => by subst e3; exact RQ.mk rfl (R.tape hn (by omega) (by omega)), fun z => by omega⟩⟩
  · intro r1 h1 e1
    subst e1
    exact ⟨fun z => by omega, fun _ => ⟨fun z => by omega, fun z => RQ.mk rfl (R.nxt hn SameX.rfl' (SameM.rfl'.si (by unfold coreM; omega)) rfl (gi_nk (by decide)))⟩⟩

theorem q_house {n dx dm : Nat} {hX hM : AH} {Q : Option AV → AH → Prop} {x1 : Int} (R : RR n hX hM) (hn : n < 512) (hQ : ∀ rx hX', WM GM (dm + 1) 0 mX8_house [vR (some 0), vI x1] hM (fun rm hM' => RQ n rx rm hX' hM') → Q rx hX') : WM GX (dx + 1) 0 mX7_house [vR (some 0), vI x1] hX Q := by
  have S := R.s
  have B5 := S.b5
  have B7 := S.b7
  have e0 := S.1.1.houses
  have v0 : 0 ≤ gi hM 2 0 ∧ gi hM 2 0 ≤ 8 := ⟨S.1.2.2.1.1, S.1.2.2.1.2.1⟩
  refine w_X7_house ?_
  (repeat' (first | exact B5 | exact B7 | refine And.intro ?_ ?_ | (intro (hh : AH) c; subst c) | intro c))
  all_goals try omega
  all_goals refine hQ _ _ (w_X8_house ?_)
  all_goals (repeat' (first | exact B5 | exact B7 | refine And.intro ?_ ?_ | (intro (hh : AH) c; subst c) | intro c))
  all_goals try simp (disch := omega) only [m2, m2f, gi_nk] at *
  all_goals try omega
  · exact RQ.mk rfl ((S.same SameX.rfl' (SameM.rfl'.si (by unfold coreM; omega))).ref hn (by omega))
  · refine RQ.mk (by omega) (RRs.ok ?_ hn (by omega))
    exact S.house (s := x1) (by omega) (by omega)
  · exact RQ.mk rfl ((S.same SameX.rfl' (SameM.rfl'.si (by unfold coreM; omega))).ref hn (by omega))
  · exact RQ.mk rfl ((S.same SameX.rfl' (SameM.rfl'.si (by unfold coreM; omega))).ref hn (by omega))

theorem q_foe {n dx dm : Nat} {hX hM : AH} {Q : Option AV → AH → Prop} {x1 : Int} (R : RR n hX hM) (hn : n < 512) (hQ : ∀ rx hX', WM GM (dm + 1) 0 mX8_foe [vR (some 0), vI x1] hM (fun rm hM' => RQ n rx rm hX' hM') → Q rx hX') : WM GX (dx + 1) 0 mX7_foe [vR (some 0), vI x1] hX Q := by
  have S := R.s
  have B5 := S.b5
  have B7 := S.b7
  have e2 := S.1.1.foes
  have v2 : 0 ≤ gi hM 2 2 ∧ gi hM 2 2 ≤ 8 := ⟨S.1.2.2.1.2.2.2.2.1, S.1.2.2.1.2.2.2.2.2.1⟩
  refine w_X7_foe ?_
  (repeat' (first | exact B5 | exact B7 | refine And.intro ?_ ?_ | (intro (hh : AH) c; subst c) | intro c))
  all_goals try omega
  all_goals refine hQ _ _ (w_X8_foe ?_)
  all_goals (repeat' (first | exact B5 | exact B7 | refine And.intro ?_ ?_ | (intro (hh : AH) c; subst c) | intro c))
  all_goals try simp (disch := omega) only [m2, m2f, gi_nk] at *
  all_goals try omega
  · exact RQ.mk rfl ((S.same SameX.rfl' (SameM.rfl'.si (by unfold coreM; omega))).ref hn (by omega))
  · refine RQ.mk (by omega) (RRs.ok ?_ hn (by omega))
    exact S.foe (s := x1) (by omega) (by omega)
  · exact RQ.mk rfl ((S.same SameX.rfl' (SameM.rfl'.si (by unfold coreM; omega))).ref hn (by omega))
  · exact RQ.mk rfl ((S.same SameX.rfl' (SameM.rfl'.si (by unfold coreM; omega))).ref hn (by omega))
