/-! what the law in force tells, in the class -/
theorem w_X1_lastTold_none {d b : Nat} {Q : Option AV → AH → Prop} {h : AH} {x2 x3 : Int} (K : Q (some (vI x3)) h) : WM GX (d + 2) b mX1_lastTold [vR (some 38), vR none, vI x2, vI x3] h Q := by
  refine WM_introE (loc' := [some (vR (some 38)), some (vR none), some (vI x2), some (vI x3), none, none, none, none]) rfl (by decide) (Nat.le_of_ble_eq_true rfl) ?_
  refine J_aload_n rfl dX1_lastTold_0 ?_
  refine J_ifnonnull (tgt := 6) dX1_lastTold_1 (by decide) (fun c => absurd rfl c) (fun _ => ?_)
  refine J_iload_n rfl dX1_lastTold_4 ?_
  exact J_ireturn rfl dX1_lastTold_5 K
