set_option maxRecDepth 20000 in
set_option maxHeartbeats 2000000 in
theorem w_X8_catches {d b : Nat} {Q : Option AV → AH → Prop} {h : AH} {x1 : Int} {x2 : Int} {x3 : Int} {x4 : Int}  (K : R32 (72 + x1) ∧ (0 ≤ 72 + x1 ∧ 72 + x1 < 5540) ∧ R64 (3 * (gi h 2 (72 + x1))) ∧ WM GM (d + 4) 0 mX8_tells [vR (some 0), vI 0, vI x1, vI (-1), vI x2, vI x3, vI x4, vL (3 * (gi h 2 (72 + x1)))] h (fun r h1 => ∃ u1, r = some (vL u1) ∧ (R32 0 ∧ R32 99) ∧ (x3 ≤ zwit u1 0 99 → Q (some (vI x3)) h1) ∧ (¬(x3 ≤ zwit u1 0 99) → Q (some (vI (zwit u1 0 99))) h1))) : WM GM (d + 5) b mX8_catches [vR (some 0), vI x1, vI x2, vI x3, vI x4] h Q := by
  refine WM_introE (loc' := [some (vR (some 0)), some (vI x1), some (vI x2), some (vI x3), some (vI x4), none]) rfl (by decide) (Nat.le_of_ble_eq_true rfl) ?_
  refine J_aload_n rfl dX8_catches_0 ?_
  refine J_iconst (by decide) dX8_catches_1 ?_
  refine J_iload_n rfl dX8_catches_2 ?_
  refine J_iconst (by decide) dX8_catches_3 ?_
  refine J_iload_n rfl dX8_catches_4 ?_
  refine J_iload_n rfl dX8_catches_5 ?_
  refine J_iload rfl dX8_catches_6 ?_
  refine J_ldc2 (n := 3) (by decide) (by decide) kc_RX8_192 dX8_catches_8 ?_
  refine J_aload_n rfl dX8_catches_11 ?_
  refine J_getS (r := 2) fl_RX8_13 rfl (Or.inl rfl) rfl dX8_catches_12 ?_
  refine J_bipush (by decide) (by decide) dX8_catches_15 ?_
  refine J_iload_n rfl dX8_catches_17 ?_
  refine J_iadd K.1 dX8_catches_18 ?_
  replace K := K.2
  refine J_iaload (Or.inl rfl) K.1 dX8_catches_19 ?_
  replace K := K.2
  refine J_i2l dX8_catches_20 ?_
  refine J_lmul K.1 dX8_catches_21 ?_
  replace K := K.2
  refine J_b0 (J_callV (b1 := 0) (ci := 8) (vs := [vI 0, vI x1, vI (-1), vI x2, vI x3, vI x4, vL (3 * (gi h 2 (72 + x1)))]) (rest := []) (Or.inl rfl) ml_RX8_424 rfl (by decide) rfl rfl (Or.inl rfl) (Nat.le_of_ble_eq_true rfl) rfl dX8_catches_22 (WM_mono K (fun r h1 K => ?_)))
  obtain ⟨u1, rfl, K⟩ := K
  show J _ _ _ _ _ _ _ [vL u1] _
  refine J_iconst (by decide) dX8_catches_25 ?_
  refine J_bipush (by decide) (by decide) dX8_catches_26 ?_
  refine J_b0 (J_callS (b1 := 0) (vs := [vL u1, vI 0, vI 99]) (rest := []) (Or.inl rfl) ml_RX8_428 rfl (by decide) (Nat.le_of_ble_eq_true rfl) rfl dX8_catches_28 (c_X8_within  K.1 ?_))
  replace K := K.2
  show J _ _ _ _ _ _ _ [vI (zwit u1 0 99)] _
  refine J_istore (loc' := [some (vR (some 0)), some (vI x1), some (vI x2), some (vI x3), some (vI x4), some (vI (zwit u1 0 99))]) (by decide) rfl dX8_catches_31 ?_
  refine J_iload rfl dX8_catches_33 ?_
  refine J_iload_n rfl dX8_catches_35 ?_
  refine J_icmp_ge (tgt := 44) dX8_catches_36 (by decide) (fun c => ?_) (fun c => ?_)
  · replace K := K.1 c
    refine J_iload_n rfl dX8_catches_44 ?_
    exact J_ireturn rfl dX8_catches_45 K
  · replace K := K.2 c
    refine J_iload rfl dX8_catches_39 ?_
    refine J_goto (tgt := 45) dX8_catches_41 (by decide) ?_
    exact J_ireturn rfl dX8_catches_45 K
set_option maxRecDepth 20000 in
set_option maxHeartbeats 2000000 in
theorem w_X8_slams {d b : Nat} {Q : Option AV → AH → Prop} {h : AH} {x1 : Int} {x2 : Int}  (K : R32 (39 + x2) ∧ (0 ≤ 39 + x2 ∧ 39 + x2 < 5540) ∧ R32 (23 + x1) ∧ (0 ≤ 23 + x1 ∧ 23 + x1 < 5540) ∧ WM GM (d + 4) 0 mX8_tells [vR (some 0), vI 1, vI x1, vI (-1), vI x2, vI (gi h 2 (39 + x2)), vI (gi h 2 (23 + x1)), vL 1] h (fun r h1 => ∃ u1, r = some (vL u1) ∧ (R32 0 ∧ R32 10) ∧ Q (some (vI (zwit u1 0 10))) h1)) : WM GM (d + 5) b mX8_slams [vR (some 0), vI x1, vI x2] h Q := by
  refine WM_introE (loc' := [some (vR (some 0)), some (vI x1), some (vI x2)]) rfl (by decide) (Nat.le_of_ble_eq_true rfl) ?_
  refine J_aload_n rfl dX8_slams_0 ?_
  refine J_iconst (by decide) dX8_slams_1 ?_
  refine J_iload_n rfl dX8_slams_2 ?_
  refine J_iconst (by decide) dX8_slams_3 ?_
  refine J_iload_n rfl dX8_slams_4 ?_
  refine J_aload_n rfl dX8_slams_5 ?_
  refine J_getS (r := 2) fl_RX8_13 rfl (Or.inl rfl) rfl dX8_slams_6 ?_
  refine J_bipush (by decide) (by decide) dX8_slams_9 ?_
  refine J_iload_n rfl dX8_slams_11 ?_
  refine J_iadd K.1 dX8_slams_12 ?_
  replace K := K.2
  refine J_iaload (Or.inl rfl) K.1 dX8_slams_13 ?_
  replace K := K.2
  refine J_aload_n rfl dX8_slams_14 ?_
  refine J_getS (r := 2) fl_RX8_13 rfl (Or.inl rfl) rfl dX8_slams_15 ?_
  refine J_bipush (by decide) (by decide) dX8_slams_18 ?_
  refine J_iload_n rfl dX8_slams_20 ?_
  refine J_iadd K.1 dX8_slams_21 ?_
  replace K := K.2
  refine J_iaload (Or.inl rfl) K.1 dX8_slams_22 ?_
  replace K := K.2
  refine J_lconst (x := 1) (by decide) (by decide) dX8_slams_23 ?_
  refine J_b0 (J_callV (b1 := 0) (ci := 8) (vs := [vI 1, vI x1, vI (-1), vI x2, vI (gi h 2 (39 + x2)), vI (gi h 2 (23 + x1)), vL 1]) (rest := []) (Or.inl rfl) ml_RX8_424 rfl (by decide) rfl rfl (Or.inl rfl) (Nat.le_of_ble_eq_true rfl) rfl dX8_slams_24 (WM_mono K (fun r h1 K => ?_)))
  obtain ⟨u1, rfl, K⟩ := K
  show J _ _ _ _ _ _ _ [vL u1] _
  refine J_iconst (by decide) dX8_slams_27 ?_
  refine J_bipush (by decide) (by decide) dX8_slams_28 ?_
  refine J_b0 (J_callS (b1 := 0) (vs := [vL u1, vI 0, vI 10]) (rest := []) (Or.inl rfl) ml_RX8_428 rfl (by decide) (Nat.le_of_ble_eq_true rfl) rfl dX8_slams_30 (c_X8_within  K.1 ?_))
  replace K := K.2
  show J _ _ _ _ _ _ _ [vI (zwit u1 0 10)] _
  exact J_ireturn rfl dX8_slams_33 K
set_option maxRecDepth 20000 in
set_option maxHeartbeats 2000000 in
theorem w_X8_fits {d b : Nat} {Q : Option AV → AH → Prop} {h : AH} {x1 : Int} {x2 : Int}  (K : WM GM (d + 4) 0 mX8_tellsFits [vR (some 0)] h (fun r h1 => ∃ u1, r = some (vI u1) ∧ (u1 = 0 → R32 (72 + x1) ∧ (0 ≤ 72 + x1 ∧ 72 + x1 < 5540) ∧ R32 (64 + x2) ∧ (0 ≤ 64 + x2 ∧ 64 + x2 < 5540) ∧ R32 ((gi h1 2 (72 + x1)) - (gi h1 2 (64 + x2))) ∧ Q (some (vI (b2i ((-1) ≤ ((gi h1 2 (72 + x1)) - (gi h1 2 (64 + x2))) ∧ ((gi h1 2 (72 + x1)) - (gi h1 2 (64 + x2))) ≤ 1)))) h1) ∧ (¬(u1 = 0) → R32 (23 + x1) ∧ (0 ≤ 23 + x1 ∧ 23 + x1 < 5540) ∧ WM GM (d + 4) 0 mX8_tells [vR (some 0), vI 2, vI x1, vI x2, vI (-1), vI (-1), vI (gi h1 2 (23 + x1)), vL 0] h1 (fun r h2 => ∃ u2, r = some (vL u2) ∧ (u2 = 1 → Q (some (vI 1)) h2) ∧ (¬(u2 = 1) → Q (some (vI 0)) h2))))) : WM GM (d + 5) b mX8_fits [vR (some 0), vI x1, vI x2] h Q := by
  refine WM_introE (loc' := [some (vR (some 0)), some (vI x1), some (vI x2)]) rfl (by decide) (Nat.le_of_ble_eq_true rfl) ?_
  refine J_aload_n rfl dX8_fits_0 ?_
  refine J_b0 (J_callV (b1 := 0) (ci := 8) (vs := []) (rest := []) (Or.inl rfl) ml_RX8_432 rfl (by decide) rfl rfl (Or.inl rfl) (Nat.le_of_ble_eq_true rfl) rfl dX8_fits_1 (WM_mono K (fun r h1 K => ?_)))
  obtain ⟨u1, rfl, K⟩ := K
  show J _ _ _ _ _ _ _ [vI u1] _
  refine J_if_eq (tgt := 37) dX8_fits_4 (by decide) (fun c => ?_) (fun c => ?_)
  · replace K := K.1 c
    refine J_aload_n rfl dX8_fits_37 ?_
    refine J_getS (r := 2) fl_RX8_13 rfl (Or.inl rfl) rfl dX8_fits_38 ?_
    refine J_bipush (by decide) (by decide) dX8_fits_41 ?_
    refine J_iload_n rfl dX8_fits_43 ?_
    refine J_iadd K.1 dX8_fits_44 ?_
    replace K := K.2
    refine J_iaload (Or.inl rfl) K.1 dX8_fits_45 ?_
    replace K := K.2
    refine J_aload_n rfl dX8_fits_46 ?_
    refine J_getS (r := 2) fl_RX8_13 rfl (Or.inl rfl) rfl dX8_fits_47 ?_
    refine J_bipush (by decide) (by decide) dX8_fits_50 ?_
    refine J_iload_n rfl dX8_fits_52 ?_
    refine J_iadd K.1 dX8_fits_53 ?_
    replace K := K.2
    refine J_iaload (Or.inl rfl) K.1 dX8_fits_54 ?_
    replace K := K.2
    refine J_isub K.1 dX8_fits_55 ?_
    replace K := K.2
    refine J_i2l dX8_fits_56 ?_
    refine J_ldc2 (n := (-1)) (by decide) (by decide) kc_RX8_277 dX8_fits_57 ?_
    refine J_lconst (x := 1) (by decide) (by decide) dX8_fits_60 ?_
    refine J_b0 (J_callS (b1 := 0) (vs := [vL _, vL (-1), vL 1]) (rest := []) (Or.inl rfl) ml_RX8_181 rfl (by decide) (Nat.le_of_ble_eq_true rfl) rfl dX8_fits_61 (c_X8_in   ?_))
    show J _ _ _ _ _ _ _ [vI _] _
    exact J_zreturn ⟨rfl, b2i_01 _⟩ dX8_fits_64 K
  · replace K := K.2 c
    refine J_aload_n rfl dX8_fits_7 ?_
    refine J_iconst (by decide) dX8_fits_8 ?_
    refine J_iload_n rfl dX8_fits_9 ?_
    refine J_iload_n rfl dX8_fits_10 ?_
    refine J_iconst (by decide) dX8_fits_11 ?_
    refine J_iconst (by decide) dX8_fits_12 ?_
    refine J_aload_n rfl dX8_fits_13 ?_
    refine J_getS (r := 2) fl_RX8_13 rfl (Or.inl rfl) rfl dX8_fits_14 ?_
    refine J_bipush (by decide) (by decide) dX8_fits_17 ?_
    refine J_iload_n rfl dX8_fits_19 ?_
    refine J_iadd K.1 dX8_fits_20 ?_
    replace K := K.2
    refine J_iaload (Or.inl rfl) K.1 dX8_fits_21 ?_
    replace K := K.2
    refine J_lconst (x := 0) (by decide) (by decide) dX8_fits_22 ?_
    refine J_b0 (J_callV (b1 := 0) (ci := 8) (vs := [vI 2, vI x1, vI x2, vI (-1), vI (-1), vI _, vL 0]) (rest := []) (Or.inl rfl) ml_RX8_424 rfl (by decide) rfl rfl (Or.inl rfl) (Nat.le_of_ble_eq_true rfl) rfl dX8_fits_23 (WM_mono K (fun r h2 K => ?_)))
    obtain ⟨u2, rfl, K⟩ := K
    show J _ _ _ _ _ _ _ [vL u2] _
    refine J_lconst (x := 1) (by decide) (by decide) dX8_fits_26 ?_
    refine J_lcmp dX8_fits_27 ?_
    refine J_if_ne (tgt := 35) dX8_fits_28 (by decide) (fun c => ?_) (fun c => ?_)
    · replace K := K.2 (fun z => c (zc_eq.mpr z))
      refine J_iconst (by decide) dX8_fits_35 ?_
      exact J_zreturn ⟨rfl, by decide⟩ dX8_fits_36 K
    · replace K := K.1 (zc_eq.mp c)
      refine J_iconst (by decide) dX8_fits_31 ?_
      refine J_goto (tgt := 36) dX8_fits_32 (by decide) ?_
      exact J_zreturn ⟨rfl, by decide⟩ dX8_fits_36 K
set_option maxRecDepth 20000 in
set_option maxHeartbeats 2000000 in
theorem w_X8_isBarred {d b : Nat} {Q : Option AV → AH → Prop} {h : AH} {x1 : Int}  (K : R32 (7 + x1) ∧ (0 ≤ 7 + x1 ∧ 7 + x1 < 5540) ∧ R32 (23 + x1) ∧ (0 ≤ 23 + x1 ∧ 23 + x1 < 5540) ∧ WM GM (d + 4) 0 mX8_tells [vR (some 0), vI 3, vI x1, vI (gi h 2 (7 + x1)), vI (-1), vI (-1), vI (gi h 2 (23 + x1)), vL 0] h (fun r h1 => ∃ u1, r = some (vL u1) ∧ (u1 = 1 → Q (some (vI 1)) h1) ∧ (¬(u1 = 1) → Q (some (vI 0)) h1))) : WM GM (d + 5) b mX8_isBarred [vR (some 0), vI x1] h Q := by
  refine WM_introE (loc' := [some (vR (some 0)), some (vI x1)]) rfl (by decide) (Nat.le_of_ble_eq_true rfl) ?_
  refine J_aload_n rfl dX8_isBarred_0 ?_
  refine J_iconst (by decide) dX8_isBarred_1 ?_
  refine J_iload_n rfl dX8_isBarred_2 ?_
  refine J_aload_n rfl dX8_isBarred_3 ?_
  refine J_getS (r := 2) fl_RX8_13 rfl (Or.inl rfl) rfl dX8_isBarred_4 ?_
  refine J_bipush (by decide) (by decide) dX8_isBarred_7 ?_
  refine J_iload_n rfl dX8_isBarred_9 ?_
  refine J_iadd K.1 dX8_isBarred_10 ?_
  replace K := K.2
  refine J_iaload (Or.inl rfl) K.1 dX8_isBarred_11 ?_
  replace K := K.2
  refine J_iconst (by decide) dX8_isBarred_12 ?_
  refine J_iconst (by decide) dX8_isBarred_13 ?_
  refine J_aload_n rfl dX8_isBarred_14 ?_
  refine J_getS (r := 2) fl_RX8_13 rfl (Or.inl rfl) rfl dX8_isBarred_15 ?_
  refine J_bipush (by decide) (by decide) dX8_isBarred_18 ?_
  refine J_iload_n rfl dX8_isBarred_20 ?_
  refine J_iadd K.1 dX8_isBarred_21 ?_
  replace K := K.2
  refine J_iaload (Or.inl rfl) K.1 dX8_isBarred_22 ?_
  replace K := K.2
  refine J_lconst (x := 0) (by decide) (by decide) dX8_isBarred_23 ?_
  refine J_b0 (J_callV (b1 := 0) (ci := 8) (vs := [vI 3, vI x1, vI (gi h 2 (7 + x1)), vI (-1), vI (-1), vI (gi h 2 (23 + x1)), vL 0]) (rest := []) (Or.inl rfl) ml_RX8_424 rfl (by decide) rfl rfl (Or.inl rfl) (Nat.le_of_ble_eq_true rfl) rfl dX8_isBarred_24 (WM_mono K (fun r h1 K => ?_)))
  obtain ⟨u1, rfl, K⟩ := K
  show J _ _ _ _ _ _ _ [vL u1] _
  refine J_lconst (x := 1) (by decide) (by decide) dX8_isBarred_27 ?_
  refine J_lcmp dX8_isBarred_28 ?_
  refine J_if_ne (tgt := 36) dX8_isBarred_29 (by decide) (fun c => ?_) (fun c => ?_)
  · replace K := K.2 (fun z => c (zc_eq.mpr z))
    refine J_iconst (by decide) dX8_isBarred_36 ?_
    exact J_zreturn ⟨rfl, by decide⟩ dX8_isBarred_37 K
  · replace K := K.1 (zc_eq.mp c)
    refine J_iconst (by decide) dX8_isBarred_32 ?_
    refine J_goto (tgt := 37) dX8_isBarred_33 (by decide) ?_
    exact J_zreturn ⟨rfl, by decide⟩ dX8_isBarred_37 K
