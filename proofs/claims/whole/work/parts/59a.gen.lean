set_option maxRecDepth 20000 in
set_option maxHeartbeats 2000000 in
theorem w_X7_imageOf {d b : Nat} {Q : Option AV → AH → Prop} {h : AH} {x1 : Int}  (K : (x1 = 0 → Q (some (vR (some 50))) h) ∧ (¬(x1 = 0) → Q (some (vR (some 63))) h)) : WM GX d b mX7_imageOf [vR (some 0), vI x1] h Q := by
  refine WM_introE (loc' := [some (vR (some 0)), some (vI x1)]) rfl (by decide) (Nat.le_of_ble_eq_true rfl) ?_
  refine J_iload_n rfl dX7_imageOf_0 ?_
  refine J_if_ne (tgt := 11) dX7_imageOf_1 (by decide) (fun c => ?_) (fun c => ?_)
  · replace K := K.2 c
    refine J_aload_n rfl dX7_imageOf_11 ?_
    refine J_getS (r := 63) fl_RX7_19 rfl (Or.inl rfl) rfl dX7_imageOf_12 ?_
    exact J_areturn ⟨_, rfl, by first | exact Or.inl ⟨_, rfl⟩ | exact Or.inr ⟨_, rfl⟩⟩ dX7_imageOf_15 K
  · replace K := K.1 c
    refine J_aload_n rfl dX7_imageOf_4 ?_
    refine J_getS (r := 50) fl_RX7_16 rfl (Or.inl rfl) rfl dX7_imageOf_5 ?_
    refine J_goto (tgt := 15) dX7_imageOf_8 (by decide) ?_
    exact J_areturn ⟨_, rfl, by first | exact Or.inl ⟨_, rfl⟩ | exact Or.inr ⟨_, rfl⟩⟩ dX7_imageOf_15 K
