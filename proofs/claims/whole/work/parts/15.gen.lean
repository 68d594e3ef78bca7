set_option maxRecDepth 20000 in
set_option maxHeartbeats 2000000 in
theorem w_X7_foam {d b : Nat} {Q : Option AV → AH → Prop} {h : AH}   (K : Q (some (vI (gi h 0 10))) h) : WM GX d b mX7_foam [vR (some 0)] h Q := by
  refine WM_introE (loc' := [some (vR (some 0))]) rfl (by decide) (Nat.le_of_ble_eq_true rfl) ?_
  refine J_aload_n rfl dX7_foam_0 ?_
  refine J_getI fl_RX7_68 rfl (Or.inl rfl) dX7_foam_1 ?_
  exact J_ireturn rfl dX7_foam_4 K
set_option maxRecDepth 20000 in
set_option maxHeartbeats 2000000 in
theorem w_X7_fault {d b : Nat} {Q : Option AV → AH → Prop} {h : AH}   (K : Q (some (vI (gi h 31 8))) h) : WM GX d b mX7_fault [vR (some 0)] h Q := by
  refine WM_introE (loc' := [some (vR (some 0))]) rfl (by decide) (Nat.le_of_ble_eq_true rfl) ?_
  refine J_aload_n rfl dX7_fault_0 ?_
  refine J_getS (r := 31) fl_RX7_43 rfl (Or.inl rfl) rfl dX7_fault_1 ?_
  refine J_getI fl_RX7_230 rfl (Or.inl rfl) dX7_fault_4 ?_
  exact J_ireturn rfl dX7_fault_7 K
set_option maxRecDepth 20000 in
set_option maxHeartbeats 2000000 in
theorem w_X8_fault {d b : Nat} {Q : Option AV → AH → Prop} {h : AH}   (K : ∀ h1, h1 = si h 0 0 0 → Q (some (vI (gi h 0 18))) h1) : WM GM d b mX8_fault [vR (some 0)] h Q := by
  refine WM_introE (loc' := [some (vR (some 0))]) rfl (by decide) (Nat.le_of_ble_eq_true rfl) ?_
  refine J_aload_n rfl dX8_fault_0 ?_
  refine J_iconst (by decide) dX8_fault_1 ?_
  refine J_putI fl_RX8_161 rfl (Or.inl rfl) dX8_fault_2 ?_
  replace K := K _ rfl
  refine J_aload_n rfl dX8_fault_5 ?_
  refine J_getIe fl_RX8_38 rfl (Or.inl rfl) (gi_nk (by decide)) dX8_fault_6 ?_
  exact J_ireturn rfl dX8_fault_9 K
set_option maxRecDepth 20000 in
set_option maxHeartbeats 2000000 in
theorem w_X7_stopped {d b : Nat} {Q : Option AV → AH → Prop} {h : AH}   (K : Q (some (vI (gi h 0 11))) h) : WM GX d b mX7_stopped [vR (some 0)] h Q := by
  refine WM_introE (loc' := [some (vR (some 0))]) rfl (by decide) (Nat.le_of_ble_eq_true rfl) ?_
  refine J_aload_n rfl dX7_stopped_0 ?_
  refine J_getI fl_RX7_72 rfl (Or.inl rfl) dX7_stopped_1 ?_
  exact J_ireturn rfl dX7_stopped_4 K
set_option maxRecDepth 20000 in
set_option maxHeartbeats 2000000 in
theorem w_X8_stopped {d b : Nat} {Q : Option AV → AH → Prop} {h : AH}   (K : ∀ h1, h1 = si h 0 0 0 → Q (some (vI (gi h 0 52))) h1) : WM GM d b mX8_stopped [vR (some 0)] h Q := by
  refine WM_introE (loc' := [some (vR (some 0))]) rfl (by decide) (Nat.le_of_ble_eq_true rfl) ?_
  refine J_aload_n rfl dX8_stopped_0 ?_
  refine J_iconst (by decide) dX8_stopped_1 ?_
  refine J_putI fl_RX8_161 rfl (Or.inl rfl) dX8_stopped_2 ?_
  replace K := K _ rfl
  refine J_aload_n rfl dX8_stopped_5 ?_
  refine J_getIe fl_RX8_149 rfl (Or.inl rfl) (gi_nk (by decide)) dX8_stopped_6 ?_
  exact J_ireturn rfl dX8_stopped_9 K
set_option maxRecDepth 20000 in
set_option maxHeartbeats 2000000 in
theorem w_X7_status {d b : Nat} {Q : Option AV → AH → Prop} {h : AH}   (K : Q (some (vI (gi h 0 14))) h) : WM GX d b mX7_status [vR (some 0)] h Q := by
  refine WM_introE (loc' := [some (vR (some 0))]) rfl (by decide) (Nat.le_of_ble_eq_true rfl) ?_
  refine J_aload_n rfl dX7_status_0 ?_
  refine J_getI fl_RX7_81 rfl (Or.inl rfl) dX7_status_1 ?_
  exact J_ireturn rfl dX7_status_4 K
set_option maxRecDepth 20000 in
set_option maxHeartbeats 2000000 in
theorem w_X8_status {d b : Nat} {Q : Option AV → AH → Prop} {h : AH}   (K : ∀ h1, h1 = si h 0 0 0 → Q (some (vI (gi h 0 1))) h1) : WM GM d b mX8_status [vR (some 0)] h Q := by
  refine WM_introE (loc' := [some (vR (some 0))]) rfl (by decide) (Nat.le_of_ble_eq_true rfl) ?_
  refine J_aload_n rfl dX8_status_0 ?_
  refine J_iconst (by decide) dX8_status_1 ?_
  refine J_putI fl_RX8_161 rfl (Or.inl rfl) dX8_status_2 ?_
  replace K := K _ rfl
  refine J_aload_n rfl dX8_status_5 ?_
  refine J_getIe fl_RX8_164 rfl (Or.inl rfl) (gi_nk (by decide)) dX8_status_6 ?_
  exact J_ireturn rfl dX8_status_9 K
set_option maxRecDepth 20000 in
set_option maxHeartbeats 2000000 in
theorem w_X7_end {d b : Nat} {Q : Option AV → AH → Prop} {h : AH} {x1 : Int}  (K : R32 x1 → (x1 < 0 → Q (some (vI (-1))) h) ∧ (¬(x1 < 0) → (x1 ≤ gi h 29 1 → ∀ h1, h1 = si h 29 1 x1 → Q (some (vI x1)) h1) ∧ (¬(x1 ≤ gi h 29 1) → Q (some (vI (-1))) h))) : WM GX d b mX7_end [vR (some 0), vI x1] h Q := by
  refine WM_introE (loc' := [some (vR (some 0)), some (vI x1)]) rfl (by decide) (Nat.le_of_ble_eq_true rfl) ?_
  refine J_rgl (i := 1) rfl (fun r1 => ?_)
  replace K := K r1
  refine J_iload_n rfl dX7_end_0 ?_
  refine J_if_lt (tgt := 15) dX7_end_1 (by decide) (fun c => ?_) (fun c => ?_)
  · replace K := K.1 c
    refine J_iconst (by decide) dX7_end_15 ?_
    exact J_ireturn rfl dX7_end_16 K
  · replace K := K.2 c
    refine J_iload_n rfl dX7_end_4 ?_
    refine J_aload_n rfl dX7_end_5 ?_
    refine J_getS (r := 29) fl_RX7_36 rfl (Or.inl rfl) rfl dX7_end_6 ?_
    refine J_getI fl_RX7_181 rfl (Or.inl rfl) dX7_end_9 ?_
    refine J_icmp_le (tgt := 17) dX7_end_12 (by decide) (fun c => ?_) (fun c => ?_)
    · replace K := K.1 c
      refine J_aload_n rfl dX7_end_17 ?_
      refine J_getS (r := 29) fl_RX7_36 rfl (Or.inl rfl) rfl dX7_end_18 ?_
      refine J_iload_n rfl dX7_end_21 ?_
      refine J_putI fl_RX7_181 rfl (Or.inl rfl) dX7_end_22 ?_
      replace K := K _ rfl
      refine J_iload_n rfl dX7_end_25 ?_
      exact J_ireturn rfl dX7_end_26 K
    · replace K := K.2 c
      refine J_iconst (by decide) dX7_end_15 ?_
      exact J_ireturn rfl dX7_end_16 K
set_option maxRecDepth 20000 in
set_option maxHeartbeats 2000000 in
theorem w_X8_end {d b : Nat} {Q : Option AV → AH → Prop} {h : AH} {x1 : Int}  (K : R32 x1 → ∀ h1, h1 = si h 0 0 0 → (x1 < 0 → Q (some (vI (-1))) h1) ∧ (¬(x1 < 0) → (x1 ≤ gi h 0 13 → ∀ h2, h2 = si h1 0 13 x1 → Q (some (vI x1)) h2) ∧ (¬(x1 ≤ gi h 0 13) → Q (some (vI (-1))) h1))) : WM GM d b mX8_end [vR (some 0), vI x1] h Q := by
  refine WM_introE (loc' := [some (vR (some 0)), some (vI x1)]) rfl (by decide) (Nat.le_of_ble_eq_true rfl) ?_
  refine J_rgl (i := 1) rfl (fun r1 => ?_)
  replace K := K r1
  refine J_aload_n rfl dX8_end_0 ?_
  refine J_iconst (by decide) dX8_end_1 ?_
  refine J_putI fl_RX8_161 rfl (Or.inl rfl) dX8_end_2 ?_
  replace K := K _ rfl
  refine J_iload_n rfl dX8_end_5 ?_
  refine J_if_lt (tgt := 17) dX8_end_6 (by decide) (fun c => ?_) (fun c => ?_)
  · replace K := K.1 c
    refine J_iconst (by decide) dX8_end_17 ?_
    exact J_ireturn rfl dX8_end_18 K
  · replace K := K.2 c
    refine J_iload_n rfl dX8_end_9 ?_
    refine J_aload_n rfl dX8_end_10 ?_
    refine J_getIe fl_RX8_238 rfl (Or.inl rfl) (gi_nk (by decide)) dX8_end_11 ?_
    refine J_icmp_le (tgt := 19) dX8_end_14 (by decide) (fun c => ?_) (fun c => ?_)
    · replace K := K.1 c
      refine J_aload_n rfl dX8_end_19 ?_
      refine J_iload_n rfl dX8_end_20 ?_
      refine J_putI fl_RX8_238 rfl (Or.inl rfl) dX8_end_21 ?_
      replace K := K _ rfl
      refine J_iload_n rfl dX8_end_24 ?_
      exact J_ireturn rfl dX8_end_25 K
    · replace K := K.2 c
      refine J_iconst (by decide) dX8_end_17 ?_
      exact J_ireturn rfl dX8_end_18 K
set_option maxRecDepth 20000 in
set_option maxHeartbeats 2000000 in
theorem w_X7_house {d b : Nat} {Q : Option AV → AH → Prop} {h : AH} {x1 : Int}  (K : R32 x1 → (x1 < 1 → (∀ i : Int, 0 ≤ i → i < 5 → 0 ≤ gi h 14 i ∧ gi h 14 i ≤ 1000000) ∧ ∀ h1, h1 = xRef h (-1) → Q (some (vI (-1))) h1) ∧ (¬(x1 < 1) → (x1 ≤ 9 → (gi h 1 0 < 8 → (0 ≤ gi h 1 0 ∧ gi h 1 0 < 8) ∧ ∀ h2, h2 = si h 2 (gi h 1 0) x1 → R32 ((gi h 1 0) + 1) ∧ ∀ h3, h3 = si h2 1 0 ((gi h 1 0) + 1) → R32 (((gi h 1 0) + 1) - 1) ∧ ∀ h4, h4 = si h3 0 14 0 → Q (some (vI (((gi h 1 0) + 1) - 1))) h4) ∧ (¬(gi h 1 0 < 8) → (∀ i : Int, 0 ≤ i → i < 5 → 0 ≤ gi h 14 i ∧ gi h 14 i ≤ 1000000) ∧ ∀ h5, h5 = xRef h (-5) → Q (some (vI (-5))) h5)) ∧ (¬(x1 ≤ 9) → (∀ i : Int, 0 ≤ i → i < 5 → 0 ≤ gi h 14 i ∧ gi h 14 i ≤ 1000000) ∧ ∀ h6, h6 = xRef h (-1) → Q (some (vI (-1))) h6))) : WM GX (d + 1) b mX7_house [vR (some 0), vI x1] h Q := by
  refine WM_introE (loc' := [some (vR (some 0)), some (vI x1)]) rfl (by decide) (Nat.le_of_ble_eq_true rfl) ?_
  refine J_rgl (i := 1) rfl (fun r1 => ?_)
  replace K := K r1
  refine J_iload_n rfl dX7_house_0 ?_
  refine J_iconst (by decide) dX7_house_1 ?_
  refine J_icmp_lt (tgt := 11) dX7_house_2 (by decide) (fun c => ?_) (fun c => ?_)
  · replace K := K.1 c
    refine J_aload_n rfl dX7_house_11 ?_
    refine J_iconst (by decide) dX7_house_12 ?_
    refine J_b0 (J_callV (b1 := 0) (ci := 7) (vs := [vI (-1)]) (rest := []) (Or.inl rfl) ml_RX7_88 rfl (by decide) rfl rfl (Or.inl rfl) (Nat.le_of_ble_eq_true rfl) rfl dX7_house_13 (c_X7_refuse  K.1 ?_))
    replace K := K.2
    replace K := K _ rfl
    show J _ _ _ _ _ _ _ [vI (-1)] _
    exact J_ireturn rfl dX7_house_16 K
  · replace K := K.2 c
    refine J_iload_n rfl dX7_house_5 ?_
    refine J_bipush (by decide) (by decide) dX7_house_6 ?_
    refine J_icmp_le (tgt := 17) dX7_house_8 (by decide) (fun c => ?_) (fun c => ?_)
    · replace K := K.1 c
      refine J_aload_n rfl dX7_house_17 ?_
      refine J_getS (r := 1) fl_RX7_10 rfl (Or.inl rfl) rfl dX7_house_18 ?_
      refine J_getI fl_RX7_92 rfl (Or.inl rfl) dX7_house_21 ?_
      refine J_bipush (by decide) (by decide) dX7_house_24 ?_
      refine J_icmp_lt (tgt := 36) dX7_house_26 (by decide) (fun c => ?_) (fun c => ?_)
      · replace K := K.1 c
        refine J_aload_n rfl dX7_house_36 ?_
        refine J_getS (r := 1) fl_RX7_10 rfl (Or.inl rfl) rfl dX7_house_37 ?_
        refine J_getS (r := 2) fl_RX7_95 rfl (Or.inl rfl) rfl dX7_house_40 ?_
        refine J_aload_n rfl dX7_house_43 ?_
        refine J_getS (r := 1) fl_RX7_10 rfl (Or.inl rfl) rfl dX7_house_44 ?_
        refine J_getI fl_RX7_92 rfl (Or.inl rfl) dX7_house_47 ?_
        refine J_iload_n rfl dX7_house_50 ?_
        refine J_iastore (Or.inl rfl) K.1 dX7_house_51 ?_
        replace K := K.2
        replace K := K _ rfl
        refine J_aload_n rfl dX7_house_52 ?_
        refine J_getS (r := 1) fl_RX7_10 rfl (Or.inl rfl) rfl dX7_house_53 ?_
        refine J_dup rfl dX7_house_56 ?_
        refine J_getIe fl_RX7_92 rfl (Or.inl rfl) (gi_no (by decide)) dX7_house_57 ?_
        refine J_iconst (by decide) dX7_house_60 ?_
        refine J_iadd K.1 dX7_house_61 ?_
        replace K := K.2
        refine J_putI fl_RX7_92 rfl (Or.inl rfl) dX7_house_62 ?_
        replace K := K _ rfl
        refine J_aload_n rfl dX7_house_65 ?_
        refine J_aload_n rfl dX7_house_66 ?_
        refine J_getS (r := 1) fl_RX7_10 rfl (Or.inl rfl) rfl dX7_house_67 ?_
        refine J_getIe fl_RX7_92 rfl (Or.inl rfl) gi_eq dX7_house_70 ?_
        refine J_iconst (by decide) dX7_house_73 ?_
        refine J_isub K.1 dX7_house_74 ?_
        replace K := K.2
        refine J_b0 (J_callV (b1 := 0) (ci := 7) (vs := [vI (((gi h 1 0) + 1) - 1)]) (rest := []) (Or.inl rfl) ml_RX7_98 rfl (by decide) rfl rfl (Or.inl rfl) (Nat.le_of_ble_eq_true rfl) rfl dX7_house_75 (c_X7_granted   ?_))
        replace K := K _ rfl
        show J _ _ _ _ _ _ _ [vI (((gi h 1 0) + 1) - 1)] _
        exact J_ireturn rfl dX7_house_78 K
      · replace K := K.2 c
        refine J_aload_n rfl dX7_house_29 ?_
        refine J_bipush (by decide) (by decide) dX7_house_30 ?_
        refine J_b0 (J_callV (b1 := 0) (ci := 7) (vs := [vI (-5)]) (rest := []) (Or.inl rfl) ml_RX7_88 rfl (by decide) rfl rfl (Or.inl rfl) (Nat.le_of_ble_eq_true rfl) rfl dX7_house_32 (c_X7_refuse  K.1 ?_))
        replace K := K.2
        replace K := K _ rfl
        show J _ _ _ _ _ _ _ [vI (-5)] _
        exact J_ireturn rfl dX7_house_35 K
    · replace K := K.2 c
      refine J_aload_n rfl dX7_house_11 ?_
      refine J_iconst (by decide) dX7_house_12 ?_
      refine J_b0 (J_callV (b1 := 0) (ci := 7) (vs := [vI (-1)]) (rest := []) (Or.inl rfl) ml_RX7_88 rfl (by decide) rfl rfl (Or.inl rfl) (Nat.le_of_ble_eq_true rfl) rfl dX7_house_13 (c_X7_refuse  K.1 ?_))
      replace K := K.2
      replace K := K _ rfl
      show J _ _ _ _ _ _ _ [vI (-1)] _
      exact J_ireturn rfl dX7_house_16 K
set_option maxRecDepth 20000 in
set_option maxHeartbeats 2000000 in
theorem w_X8_house {d b : Nat} {Q : Option AV → AH → Prop} {h : AH} {x1 : Int}  (K : R32 x1 → ∀ h1, h1 = si h 0 0 0 → (1 ≤ x1 ∧ x1 ≤ 9 → (gi h 2 0 = 8 → (-7 < (-5)) ∧ (∀ i : Int, 0 ≤ i → i < 7 → 0 ≤ gi h1 1 i ∧ gi h1 1 i ≤ 1000000) ∧ ∀ h5, h5 = mTell h1 (-5) → Q (some (vI (-5))) h5) ∧ (¬(gi h 2 0 = 8) → R32 (64 + (gi h 2 0)) ∧ (0 ≤ 64 + (gi h 2 0) ∧ 64 + (gi h 2 0) < 5540) ∧ ∀ h2, h2 = si h1 2 (64 + (gi h 2 0)) x1 → R32 ((gi h2 2 0) + 1) ∧ ∀ h3, h3 = si h2 2 0 ((gi h2 2 0) + 1) → (-7 < (gi h 2 0)) ∧ (∀ i : Int, 0 ≤ i → i < 7 → 0 ≤ gi h3 1 i ∧ gi h3 1 i ≤ 1000000) ∧ ∀ h4, h4 = mTell h3 (gi h 2 0) → Q (some (vI (gi h 2 0))) h4)) ∧ (¬(1 ≤ x1 ∧ x1 ≤ 9) → (-7 < (-1)) ∧ (∀ i : Int, 0 ≤ i → i < 7 → 0 ≤ gi h1 1 i ∧ gi h1 1 i ≤ 1000000) ∧ ∀ h6, h6 = mTell h1 (-1) → Q (some (vI (-1))) h6)) : WM GM (d + 1) b mX8_house [vR (some 0), vI x1] h Q := by
  refine WM_introE (loc' := [some (vR (some 0)), some (vI x1), none]) rfl (by decide) (Nat.le_of_ble_eq_true rfl) ?_
  refine J_rgl (i := 1) rfl (fun r1 => ?_)
  replace K := K r1
  refine J_aload_n rfl dX8_house_0 ?_
  refine J_iconst (by decide) dX8_house_1 ?_
  refine J_putI fl_RX8_161 rfl (Or.inl rfl) dX8_house_2 ?_
  replace K := K _ rfl
  refine J_iload_n rfl dX8_house_5 ?_
  refine J_i2l dX8_house_6 ?_
  refine J_lconst (x := 1) (by decide) (by decide) dX8_house_7 ?_
  refine J_ldc2 (n := 9) (by decide) (by decide) kc_RX8_190 dX8_house_8 ?_
  refine J_b0 (J_callS (b1 := 0) (vs := [vL x1, vL 1, vL 9]) (rest := []) (Or.inl rfl) ml_RX8_181 rfl (by decide) (Nat.le_of_ble_eq_true rfl) rfl dX8_house_11 (c_X8_in   ?_))
  show J _ _ _ _ _ _ _ [vI (b2i (1 ≤ x1 ∧ x1 ≤ 9))] _
  refine J_if_ne (tgt := 23) dX8_house_14 (by decide) (fun c => ?_) (fun c => ?_)
  · replace K := K.1 (b2i_n0.mp c)
    refine J_aload_n rfl dX8_house_23 ?_
    refine J_getS (r := 2) fl_RX8_13 rfl (Or.inl rfl) rfl dX8_house_24 ?_
    refine J_iconst (by decide) dX8_house_27 ?_
    refine J_ialoade (Or.inl rfl) (by decide) (gi_no (by decide)) dX8_house_28 ?_
    refine J_istore_n (loc' := [some (vR (some 0)), some (vI x1), some (vI (gi h 2 0))]) (by decide) rfl dX8_house_29 ?_
    refine J_iload_n rfl dX8_house_30 ?_
    refine J_bipush (by decide) (by decide) dX8_house_31 ?_
    refine J_icmp_ne (tgt := 43) dX8_house_33 (by decide) (fun c => ?_) (fun c => ?_)
    · replace K := K.2 c
      refine J_aload_n rfl dX8_house_43 ?_
      refine J_getS (r := 2) fl_RX8_13 rfl (Or.inl rfl) rfl dX8_house_44 ?_
      refine J_bipush (by decide) (by decide) dX8_house_47 ?_
      refine J_iload_n rfl dX8_house_49 ?_
      refine J_iadd K.1 dX8_house_50 ?_
      replace K := K.2
      refine J_iload_n rfl dX8_house_51 ?_
      refine J_iastore (Or.inl rfl) K.1 dX8_house_52 ?_
      replace K := K.2
      replace K := K _ rfl
      refine J_aload_n rfl dX8_house_53 ?_
      refine J_getS (r := 2) fl_RX8_13 rfl (Or.inl rfl) rfl dX8_house_54 ?_
      refine J_iconst (by decide) dX8_house_57 ?_
      refine J_dup2 rfl rfl dX8_house_58 ?_
      refine J_iaload (Or.inl rfl) (by decide) dX8_house_59 ?_
      refine J_iconst (by decide) dX8_house_60 ?_
      refine J_iadd K.1 dX8_house_61 ?_
      replace K := K.2
      refine J_iastore (Or.inl rfl) (by decide) dX8_house_62 ?_
      replace K := K _ rfl
      refine J_aload_n rfl dX8_house_63 ?_
      refine J_iload_n rfl dX8_house_64 ?_
      refine J_b0 (J_callV (b1 := 0) (ci := 8) (vs := [vI (gi h 2 0)]) (rest := []) (Or.inl rfl) ml_RX8_170 rfl (by decide) rfl rfl (Or.inl rfl) (Nat.le_of_ble_eq_true rfl) rfl dX8_house_65 (c_X8_tell  K.1 K.2.1 ?_))
      replace K := K.2.2
      replace K := K _ rfl
      show J _ _ _ _ _ _ _ [vI (gi h 2 0)] _
      exact J_ireturn rfl dX8_house_68 K
    · replace K := K.1 c
      refine J_aload_n rfl dX8_house_36 ?_
      refine J_bipush (by decide) (by decide) dX8_house_37 ?_
      refine J_b0 (J_callV (b1 := 0) (ci := 8) (vs := [vI (-5)]) (rest := []) (Or.inl rfl) ml_RX8_170 rfl (by decide) rfl rfl (Or.inl rfl) (Nat.le_of_ble_eq_true rfl) rfl dX8_house_39 (c_X8_tell  K.1 K.2.1 ?_))
      replace K := K.2.2
      replace K := K _ rfl
      show J _ _ _ _ _ _ _ [vI (-5)] _
      exact J_ireturn rfl dX8_house_42 K
  · replace K := K.2 (b2i_0.mp c)
    refine J_aload_n rfl dX8_house_17 ?_
    refine J_iconst (by decide) dX8_house_18 ?_
    refine J_b0 (J_callV (b1 := 0) (ci := 8) (vs := [vI (-1)]) (rest := []) (Or.inl rfl) ml_RX8_170 rfl (by decide) rfl rfl (Or.inl rfl) (Nat.le_of_ble_eq_true rfl) rfl dX8_house_19 (c_X8_tell  K.1 K.2.1 ?_))
    replace K := K.2.2
    replace K := K _ rfl
    show J _ _ _ _ _ _ _ [vI (-1)] _
    exact J_ireturn rfl dX8_house_22 K
set_option maxRecDepth 20000 in
set_option maxHeartbeats 2000000 in
theorem w_X7_foe {d b : Nat} {Q : Option AV → AH → Prop} {h : AH} {x1 : Int}  (K : R32 x1 → (x1 < 1 → (∀ i : Int, 0 ≤ i → i < 5 → 0 ≤ gi h 14 i ∧ gi h 14 i ≤ 1000000) ∧ ∀ h1, h1 = xRef h (-1) → Q (some (vI (-1))) h1) ∧ (¬(x1 < 1) → (x1 ≤ 9 → (gi h 1 12 < 8 → (0 ≤ gi h 1 12 ∧ gi h 1 12 < 8) ∧ ∀ h2, h2 = si h 12 (gi h 1 12) x1 → R32 ((gi h 1 12) + 1) ∧ ∀ h3, h3 = si h2 1 12 ((gi h 1 12) + 1) → R32 (((gi h 1 12) + 1) - 1) ∧ ∀ h4, h4 = si h3 0 14 0 → Q (some (vI (((gi h 1 12) + 1) - 1))) h4) ∧ (¬(gi h 1 12 < 8) → (∀ i : Int, 0 ≤ i → i < 5 → 0 ≤ gi h 14 i ∧ gi h 14 i ≤ 1000000) ∧ ∀ h5, h5 = xRef h (-5) → Q (some (vI (-5))) h5)) ∧ (¬(x1 ≤ 9) → (∀ i : Int, 0 ≤ i → i < 5 → 0 ≤ gi h 14 i ∧ gi h 14 i ≤ 1000000) ∧ ∀ h6, h6 = xRef h (-1) → Q (some (vI (-1))) h6))) : WM GX (d + 1) b mX7_foe [vR (some 0), vI x1] h Q := by
  refine WM_introE (loc' := [some (vR (some 0)), some (vI x1)]) rfl (by decide) (Nat.le_of_ble_eq_true rfl) ?_
  refine J_rgl (i := 1) rfl (fun r1 => ?_)
  replace K := K r1
  refine J_iload_n rfl dX7_foe_0 ?_
  refine J_iconst (by decide) dX7_foe_1 ?_
  refine J_icmp_lt (tgt := 11) dX7_foe_2 (by decide) (fun c => ?_) (fun c => ?_)
  · replace K := K.1 c
    refine J_aload_n rfl dX7_foe_11 ?_
    refine J_iconst (by decide) dX7_foe_12 ?_
    refine J_b0 (J_callV (b1 := 0) (ci := 7) (vs := [vI (-1)]) (rest := []) (Or.inl rfl) ml_RX7_88 rfl (by decide) rfl rfl (Or.inl rfl) (Nat.le_of_ble_eq_true rfl) rfl dX7_foe_13 (c_X7_refuse  K.1 ?_))
    replace K := K.2
    replace K := K _ rfl
    show J _ _ _ _ _ _ _ [vI (-1)] _
    exact J_ireturn rfl dX7_foe_16 K
  · replace K := K.2 c
    refine J_iload_n rfl dX7_foe_5 ?_
    refine J_bipush (by decide) (by decide) dX7_foe_6 ?_
    refine J_icmp_le (tgt := 17) dX7_foe_8 (by decide) (fun c => ?_) (fun c => ?_)
    · replace K := K.1 c
      refine J_aload_n rfl dX7_foe_17 ?_
      refine J_getS (r := 1) fl_RX7_10 rfl (Or.inl rfl) rfl dX7_foe_18 ?_
      refine J_getI fl_RX7_169 rfl (Or.inl rfl) dX7_foe_21 ?_
      refine J_bipush (by decide) (by decide) dX7_foe_24 ?_
      refine J_icmp_lt (tgt := 36) dX7_foe_26 (by decide) (fun c => ?_) (fun c => ?_)
      · replace K := K.1 c
        refine J_aload_n rfl dX7_foe_36 ?_
        refine J_getS (r := 1) fl_RX7_10 rfl (Or.inl rfl) rfl dX7_foe_37 ?_
        refine J_getS (r := 12) fl_RX7_172 rfl (Or.inl rfl) rfl dX7_foe_40 ?_
        refine J_aload_n rfl dX7_foe_43 ?_
        refine J_getS (r := 1) fl_RX7_10 rfl (Or.inl rfl) rfl dX7_foe_44 ?_
        refine J_getI fl_RX7_169 rfl (Or.inl rfl) dX7_foe_47 ?_
        refine J_iload_n rfl dX7_foe_50 ?_
        refine J_iastore (Or.inl rfl) K.1 dX7_foe_51 ?_
        replace K := K.2
        replace K := K _ rfl
        refine J_aload_n rfl dX7_foe_52 ?_
        refine J_getS (r := 1) fl_RX7_10 rfl (Or.inl rfl) rfl dX7_foe_53 ?_
        refine J_dup rfl dX7_foe_56 ?_
        refine J_getIe fl_RX7_169 rfl (Or.inl rfl) (gi_no (by decide)) dX7_foe_57 ?_
        refine J_iconst (by decide) dX7_foe_60 ?_
        refine J_iadd K.1 dX7_foe_61 ?_
        replace K := K.2
        refine J_putI fl_RX7_169 rfl (Or.inl rfl) dX7_foe_62 ?_
        replace K := K _ rfl
        refine J_aload_n rfl dX7_foe_65 ?_
        refine J_aload_n rfl dX7_foe_66 ?_
        refine J_getS (r := 1) fl_RX7_10 rfl (Or.inl rfl) rfl dX7_foe_67 ?_
        refine J_getIe fl_RX7_169 rfl (Or.inl rfl) gi_eq dX7_foe_70 ?_
        refine J_iconst (by decide) dX7_foe_73 ?_
        refine J_isub K.1 dX7_foe_74 ?_
        replace K := K.2
        refine J_b0 (J_callV (b1 := 0) (ci := 7) (vs := [vI (((gi h 1 12) + 1) - 1)]) (rest := []) (Or.inl rfl) ml_RX7_98 rfl (by decide) rfl rfl (Or.inl rfl) (Nat.le_of_ble_eq_true rfl) rfl dX7_foe_75 (c_X7_granted   ?_))
        replace K := K _ rfl
        show J _ _ _ _ _ _ _ [vI (((gi h 1 12) + 1) - 1)] _
        exact J_ireturn rfl dX7_foe_78 K
      · replace K := K.2 c
        refine J_aload_n rfl dX7_foe_29 ?_
        refine J_bipush (by decide) (by decide) dX7_foe_30 ?_
        refine J_b0 (J_callV (b1 := 0) (ci := 7) (vs := [vI (-5)]) (rest := []) (Or.inl rfl) ml_RX7_88 rfl (by decide) rfl rfl (Or.inl rfl) (Nat.le_of_ble_eq_true rfl) rfl dX7_foe_32 (c_X7_refuse  K.1 ?_))
        replace K := K.2
        replace K := K _ rfl
        show J _ _ _ _ _ _ _ [vI (-5)] _
        exact J_ireturn rfl dX7_foe_35 K
    · replace K := K.2 c
      refine J_aload_n rfl dX7_foe_11 ?_
      refine J_iconst (by decide) dX7_foe_12 ?_
      refine J_b0 (J_callV (b1 := 0) (ci := 7) (vs := [vI (-1)]) (rest := []) (Or.inl rfl) ml_RX7_88 rfl (by decide) rfl rfl (Or.inl rfl) (Nat.le_of_ble_eq_true rfl) rfl dX7_foe_13 (c_X7_refuse  K.1 ?_))
      replace K := K.2
      replace K := K _ rfl
      show J _ _ _ _ _ _ _ [vI (-1)] _
      exact J_ireturn rfl dX7_foe_16 K
set_option maxRecDepth 20000 in
set_option maxHeartbeats 2000000 in
theorem w_X8_foe {d b : Nat} {Q : Option AV → AH → Prop} {h : AH} {x1 : Int}  (K : R32 x1 → ∀ h1, h1 = si h 0 0 0 → (1 ≤ x1 ∧ x1 ≤ 9 → (gi h 2 2 = 8 → (-7 < (-5)) ∧ (∀ i : Int, 0 ≤ i → i < 7 → 0 ≤ gi h1 1 i ∧ gi h1 1 i ≤ 1000000) ∧ ∀ h5, h5 = mTell h1 (-5) → Q (some (vI (-5))) h5) ∧ (¬(gi h 2 2 = 8) → R32 (129 + (gi h 2 2)) ∧ (0 ≤ 129 + (gi h 2 2) ∧ 129 + (gi h 2 2) < 5540) ∧ ∀ h2, h2 = si h1 2 (129 + (gi h 2 2)) x1 → R32 ((gi h2 2 2) + 1) ∧ ∀ h3, h3 = si h2 2 2 ((gi h2 2 2) + 1) → (-7 < (gi h 2 2)) ∧ (∀ i : Int, 0 ≤ i → i < 7 → 0 ≤ gi h3 1 i ∧ gi h3 1 i ≤ 1000000) ∧ ∀ h4, h4 = mTell h3 (gi h 2 2) → Q (some (vI (gi h 2 2))) h4)) ∧ (¬(1 ≤ x1 ∧ x1 ≤ 9) → (-7 < (-1)) ∧ (∀ i : Int, 0 ≤ i → i < 7 → 0 ≤ gi h1 1 i ∧ gi h1 1 i ≤ 1000000) ∧ ∀ h6, h6 = mTell h1 (-1) → Q (some (vI (-1))) h6)) : WM GM (d + 1) b mX8_foe [vR (some 0), vI x1] h Q := by
  refine WM_introE (loc' := [some (vR (some 0)), some (vI x1), none]) rfl (by decide) (Nat.le_of_ble_eq_true rfl) ?_
  refine J_rgl (i := 1) rfl (fun r1 => ?_)
  replace K := K r1
  refine J_aload_n rfl dX8_foe_0 ?_
  refine J_iconst (by decide) dX8_foe_1 ?_
  refine J_putI fl_RX8_161 rfl (Or.inl rfl) dX8_foe_2 ?_
  replace K := K _ rfl
  refine J_iload_n rfl dX8_foe_5 ?_
  refine J_i2l dX8_foe_6 ?_
  refine J_lconst (x := 1) (by decide) (by decide) dX8_foe_7 ?_
  refine J_ldc2 (n := 9) (by decide) (by decide) kc_RX8_190 dX8_foe_8 ?_
  refine J_b0 (J_callS (b1 := 0) (vs := [vL x1, vL 1, vL 9]) (rest := []) (Or.inl rfl) ml_RX8_181 rfl (by decide) (Nat.le_of_ble_eq_true rfl) rfl dX8_foe_11 (c_X8_in   ?_))
  show J _ _ _ _ _ _ _ [vI (b2i (1 ≤ x1 ∧ x1 ≤ 9))] _
  refine J_if_ne (tgt := 23) dX8_foe_14 (by decide) (fun c => ?_) (fun c => ?_)
  · replace K := K.1 (b2i_n0.mp c)
    refine J_aload_n rfl dX8_foe_23 ?_
    refine J_getS (r := 2) fl_RX8_13 rfl (Or.inl rfl) rfl dX8_foe_24 ?_
    refine J_iconst (by decide) dX8_foe_27 ?_
    refine J_ialoade (Or.inl rfl) (by decide) (gi_no (by decide)) dX8_foe_28 ?_
    refine J_istore_n (loc' := [some (vR (some 0)), some (vI x1), some (vI (gi h 2 2))]) (by decide) rfl dX8_foe_29 ?_
    refine J_iload_n rfl dX8_foe_30 ?_
    refine J_bipush (by decide) (by decide) dX8_foe_31 ?_
    refine J_icmp_ne (tgt := 43) dX8_foe_33 (by decide) (fun c => ?_) (fun c => ?_)
    · replace K := K.2 c
      refine J_aload_n rfl dX8_foe_43 ?_
      refine J_getS (r := 2) fl_RX8_13 rfl (Or.inl rfl) rfl dX8_foe_44 ?_
      refine J_sipush (by decide) (by decide) dX8_foe_47 ?_
      refine J_iload_n rfl dX8_foe_50 ?_
      refine J_iadd K.1 dX8_foe_51 ?_
      replace K := K.2
      refine J_iload_n rfl dX8_foe_52 ?_
      refine J_iastore (Or.inl rfl) K.1 dX8_foe_53 ?_
      replace K := K.2
      replace K := K _ rfl
      refine J_aload_n rfl dX8_foe_54 ?_
      refine J_getS (r := 2) fl_RX8_13 rfl (Or.inl rfl) rfl dX8_foe_55 ?_
      refine J_iconst (by decide) dX8_foe_58 ?_
      refine J_dup2 rfl rfl dX8_foe_59 ?_
      refine J_iaload (Or.inl rfl) (by decide) dX8_foe_60 ?_
      refine J_iconst (by decide) dX8_foe_61 ?_
      refine J_iadd K.1 dX8_foe_62 ?_
      replace K := K.2
      refine J_iastore (Or.inl rfl) (by decide) dX8_foe_63 ?_
      replace K := K _ rfl
      refine J_aload_n rfl dX8_foe_64 ?_
      refine J_iload_n rfl dX8_foe_65 ?_
      refine J_b0 (J_callV (b1 := 0) (ci := 8) (vs := [vI (gi h 2 2)]) (rest := []) (Or.inl rfl) ml_RX8_170 rfl (by decide) rfl rfl (Or.inl rfl) (Nat.le_of_ble_eq_true rfl) rfl dX8_foe_66 (c_X8_tell  K.1 K.2.1 ?_))
      replace K := K.2.2
      replace K := K _ rfl
      show J _ _ _ _ _ _ _ [vI (gi h 2 2)] _
      exact J_ireturn rfl dX8_foe_69 K
    · replace K := K.1 c
      refine J_aload_n rfl dX8_foe_36 ?_
      refine J_bipush (by decide) (by decide) dX8_foe_37 ?_
      refine J_b0 (J_callV (b1 := 0) (ci := 8) (vs := [vI (-5)]) (rest := []) (Or.inl rfl) ml_RX8_170 rfl (by decide) rfl rfl (Or.inl rfl) (Nat.le_of_ble_eq_true rfl) rfl dX8_foe_39 (c_X8_tell  K.1 K.2.1 ?_))
      replace K := K.2.2
      replace K := K _ rfl
      show J _ _ _ _ _ _ _ [vI (-5)] _
      exact J_ireturn rfl dX8_foe_42 K
  · replace K := K.2 (b2i_0.mp c)
    refine J_aload_n rfl dX8_foe_17 ?_
    refine J_iconst (by decide) dX8_foe_18 ?_
    refine J_b0 (J_callV (b1 := 0) (ci := 8) (vs := [vI (-1)]) (rest := []) (Or.inl rfl) ml_RX8_170 rfl (by decide) rfl rfl (Or.inl rfl) (Nat.le_of_ble_eq_true rfl) rfl dX8_foe_19 (c_X8_tell  K.1 K.2.1 ?_))
    replace K := K.2.2
    replace K := K _ rfl
    show J _ _ _ _ _ _ _ [vI (-1)] _
    exact J_ireturn rfl dX8_foe_22 K
set_option maxRecDepth 20000 in
set_option maxHeartbeats 2000000 in
theorem w_X7_peace {d b : Nat} {Q : Option AV → AH → Prop} {h : AH}   (K : ∀ h1, h1 = si h 1 12 0 → Q (some (vI (gi h 1 12))) h1) : WM GX d b mX7_peace [vR (some 0)] h Q := by
  refine WM_introE (loc' := [some (vR (some 0)), none]) rfl (by decide) (Nat.le_of_ble_eq_true rfl) ?_
  refine J_aload_n rfl dX7_peace_0 ?_
  refine J_getS (r := 1) fl_RX7_10 rfl (Or.inl rfl) rfl dX7_peace_1 ?_
  refine J_getI fl_RX7_169 rfl (Or.inl rfl) dX7_peace_4 ?_
  refine J_istore_n (loc' := [some (vR (some 0)), some (vI (gi h 1 12))]) (by decide) rfl dX7_peace_7 ?_
  refine J_aload_n rfl dX7_peace_8 ?_
  refine J_getS (r := 1) fl_RX7_10 rfl (Or.inl rfl) rfl dX7_peace_9 ?_
  refine J_iconst (by decide) dX7_peace_12 ?_
  refine J_putI fl_RX7_169 rfl (Or.inl rfl) dX7_peace_13 ?_
  replace K := K _ rfl
  refine J_iload_n rfl dX7_peace_16 ?_
  exact J_ireturn rfl dX7_peace_17 K
set_option maxRecDepth 20000 in
set_option maxHeartbeats 2000000 in
theorem w_X8_peace {d b : Nat} {Q : Option AV → AH → Prop} {h : AH}   (K : ∀ h1, h1 = si h 0 0 0 → ∀ h2, h2 = si h1 2 2 0 → Q (some (vI (gi h 2 2))) h2) : WM GM d b mX8_peace [vR (some 0)] h Q := by
  refine WM_introE (loc' := [some (vR (some 0)), none]) rfl (by decide) (Nat.le_of_ble_eq_true rfl) ?_
  refine J_aload_n rfl dX8_peace_0 ?_
  refine J_iconst (by decide) dX8_peace_1 ?_
  refine J_putI fl_RX8_161 rfl (Or.inl rfl) dX8_peace_2 ?_
  replace K := K _ rfl
  refine J_aload_n rfl dX8_peace_5 ?_
  refine J_getS (r := 2) fl_RX8_13 rfl (Or.inl rfl) rfl dX8_peace_6 ?_
  refine J_iconst (by decide) dX8_peace_9 ?_
  refine J_ialoade (Or.inl rfl) (by decide) (gi_no (by decide)) dX8_peace_10 ?_
  refine J_istore_n (loc' := [some (vR (some 0)), some (vI (gi h 2 2))]) (by decide) rfl dX8_peace_11 ?_
  refine J_aload_n rfl dX8_peace_12 ?_
  refine J_getS (r := 2) fl_RX8_13 rfl (Or.inl rfl) rfl dX8_peace_13 ?_
  refine J_iconst (by decide) dX8_peace_16 ?_
  refine J_iconst (by decide) dX8_peace_17 ?_
  refine J_iastore (Or.inl rfl) (by decide) dX8_peace_18 ?_
  replace K := K _ rfl
  refine J_iload_n rfl dX8_peace_19 ?_
  exact J_ireturn rfl dX8_peace_20 K
set_option maxRecDepth 20000 in
set_option maxHeartbeats 2000000 in
theorem w_X7_force {d b : Nat} {Q : Option AV → AH → Prop} {h : AH} {x1 : Int}  (K : R32 x1 → (x1 < (-1) → (∀ i : Int, 0 ≤ i → i < 5 → 0 ≤ gi h 14 i ∧ gi h 14 i ≤ 1000000) ∧ ∀ h1, h1 = xRef h (-2) → Q (some (vI (-2))) h1) ∧ (¬(x1 < (-1)) → (x1 < gi h 1 16 → ∀ h2, h2 = si h 1 18 x1 → ∀ h3, h3 = si h2 0 14 0 → Q (some (vI (gi h 1 18))) h3) ∧ (¬(x1 < gi h 1 16) → (∀ i : Int, 0 ≤ i → i < 5 → 0 ≤ gi h 14 i ∧ gi h 14 i ≤ 1000000) ∧ ∀ h4, h4 = xRef h (-2) → Q (some (vI (-2))) h4))) : WM GX (d + 1) b mX7_force [vR (some 0), vI x1] h Q := by
  refine WM_introE (loc' := [some (vR (some 0)), some (vI x1), none]) rfl (by decide) (Nat.le_of_ble_eq_true rfl) ?_
  refine J_rgl (i := 1) rfl (fun r1 => ?_)
  replace K := K r1
  refine J_iload_n rfl dX7_force_0 ?_
  refine J_iconst (by decide) dX7_force_1 ?_
  refine J_icmp_lt (tgt := 16) dX7_force_2 (by decide) (fun c => ?_) (fun c => ?_)
  · replace K := K.1 c
    refine J_aload_n rfl dX7_force_16 ?_
    refine J_bipush (by decide) (by decide) dX7_force_17 ?_
    refine J_b0 (J_callV (b1 := 0) (ci := 7) (vs := [vI (-2)]) (rest := []) (Or.inl rfl) ml_RX7_88 rfl (by decide) rfl rfl (Or.inl rfl) (Nat.le_of_ble_eq_true rfl) rfl dX7_force_19 (c_X7_refuse  K.1 ?_))
    replace K := K.2
    replace K := K _ rfl
    show J _ _ _ _ _ _ _ [vI (-2)] _
    exact J_ireturn rfl dX7_force_22 K
  · replace K := K.2 c
    refine J_iload_n rfl dX7_force_5 ?_
    refine J_aload_n rfl dX7_force_6 ?_
    refine J_getS (r := 1) fl_RX7_10 rfl (Or.inl rfl) rfl dX7_force_7 ?_
    refine J_getI fl_RX7_191 rfl (Or.inl rfl) dX7_force_10 ?_
    refine J_icmp_lt (tgt := 23) dX7_force_13 (by decide) (fun c => ?_) (fun c => ?_)
    · replace K := K.1 c
      refine J_aload_n rfl dX7_force_23 ?_
      refine J_getS (r := 1) fl_RX7_10 rfl (Or.inl rfl) rfl dX7_force_24 ?_
      refine J_getI fl_RX7_233 rfl (Or.inl rfl) dX7_force_27 ?_
      refine J_istore_n (loc' := [some (vR (some 0)), some (vI x1), some (vI (gi h 1 18))]) (by decide) rfl dX7_force_30 ?_
      refine J_aload_n rfl dX7_force_31 ?_
      refine J_getS (r := 1) fl_RX7_10 rfl (Or.inl rfl) rfl dX7_force_32 ?_
      refine J_iload_n rfl dX7_force_35 ?_
      refine J_putI fl_RX7_233 rfl (Or.inl rfl) dX7_force_36 ?_
      replace K := K _ rfl
      refine J_aload_n rfl dX7_force_39 ?_
      refine J_iload_n rfl dX7_force_40 ?_
      refine J_b0 (J_callV (b1 := 0) (ci := 7) (vs := [vI (gi h 1 18)]) (rest := []) (Or.inl rfl) ml_RX7_98 rfl (by decide) rfl rfl (Or.inl rfl) (Nat.le_of_ble_eq_true rfl) rfl dX7_force_41 (c_X7_granted   ?_))
      replace K := K _ rfl
      show J _ _ _ _ _ _ _ [vI (gi h 1 18)] _
      exact J_ireturn rfl dX7_force_44 K
    · replace K := K.2 c
      refine J_aload_n rfl dX7_force_16 ?_
      refine J_bipush (by decide) (by decide) dX7_force_17 ?_
      refine J_b0 (J_callV (b1 := 0) (ci := 7) (vs := [vI (-2)]) (rest := []) (Or.inl rfl) ml_RX7_88 rfl (by decide) rfl rfl (Or.inl rfl) (Nat.le_of_ble_eq_true rfl) rfl dX7_force_19 (c_X7_refuse  K.1 ?_))
      replace K := K.2
      replace K := K _ rfl
      show J _ _ _ _ _ _ _ [vI (-2)] _
      exact J_ireturn rfl dX7_force_22 K
set_option maxRecDepth 20000 in
set_option maxHeartbeats 2000000 in
theorem w_X8_force {d b : Nat} {Q : Option AV → AH → Prop} {h : AH} {x1 : Int}  (K : R32 x1 → ∀ h1, h1 = si h 0 0 0 → (x1 = (-1) → ((0 : Int) ≤ 4 ∧ (4 : Int) < 5540) ∧ ∀ h2, h2 = si (si h1 2 4 x1) 0 1 0 → Q (some (vI (gi h1 2 4))) h2) ∧ (¬(x1 = (-1)) → R64 ((gi h 2 3) - 1) ∧ (0 ≤ x1 ∧ x1 ≤ ((gi h 2 3) - 1) → ((0 : Int) ≤ 4 ∧ (4 : Int) < 5540) ∧ ∀ h4, h4 = si (si h1 2 4 x1) 0 1 0 → Q (some (vI (gi h1 2 4))) h4) ∧ (¬(0 ≤ x1 ∧ x1 ≤ ((gi h 2 3) - 1)) → (-7 < (-2)) ∧ (∀ i : Int, 0 ≤ i → i < 7 → 0 ≤ gi h1 1 i ∧ gi h1 1 i ≤ 1000000) ∧ ∀ h3, h3 = mTell h1 (-2) → Q (some (vI (-2))) h3))) : WM GM (d + 1) b mX8_force [vR (some 0), vI x1] h Q := by
  refine WM_introE (loc' := [some (vR (some 0)), some (vI x1)]) rfl (by decide) (Nat.le_of_ble_eq_true rfl) ?_
  refine J_rgl (i := 1) rfl (fun r1 => ?_)
  replace K := K r1
  refine J_aload_n rfl dX8_force_0 ?_
  refine J_iconst (by decide) dX8_force_1 ?_
  refine J_putI fl_RX8_161 rfl (Or.inl rfl) dX8_force_2 ?_
  replace K := K _ rfl
  refine J_iload_n rfl dX8_force_5 ?_
  refine J_iconst (by decide) dX8_force_6 ?_
  refine J_icmp_eq (tgt := 28) dX8_force_7 (by decide) (fun c => ?_) (fun c => ?_)
  · replace K := K.1 c
    refine J_aload_n rfl dX8_force_28 ?_
    refine J_iconst (by decide) dX8_force_29 ?_
    refine J_iload_n rfl dX8_force_30 ?_
    refine J_b0 (J_callV (b1 := 0) (ci := 8) (vs := [vI 4, vI x1]) (rest := []) (Or.inl rfl) ml_RX8_223 rfl (by decide) rfl rfl (Or.inl rfl) (Nat.le_of_ble_eq_true rfl) rfl dX8_force_31 (c_X8_change  K.1 ?_))
    replace K := K.2
    replace K := K _ rfl
    show J _ _ _ _ _ _ _ [vI _] _
    refine J_goto (tgt := 43) dX8_force_34 (by decide) ?_
    exact J_ireturn rfl dX8_force_43 K
  · replace K := K.2 c
    refine J_iload_n rfl dX8_force_10 ?_
    refine J_i2l dX8_force_11 ?_
    refine J_lconst (x := 0) (by decide) (by decide) dX8_force_12 ?_
    refine J_aload_n rfl dX8_force_13 ?_
    refine J_getS (r := 2) fl_RX8_13 rfl (Or.inl rfl) rfl dX8_force_14 ?_
    refine J_iconst (by decide) dX8_force_17 ?_
    refine J_ialoade (Or.inl rfl) (by decide) (gi_no (by decide)) dX8_force_18 ?_
    refine J_i2l dX8_force_19 ?_
    refine J_lconst (x := 1) (by decide) (by decide) dX8_force_20 ?_
    refine J_lsub K.1 dX8_force_21 ?_
    replace K := K.2
    refine J_b0 (J_callS (b1 := 0) (vs := [vL x1, vL 0, vL ((gi h 2 3) - 1)]) (rest := []) (Or.inl rfl) ml_RX8_181 rfl (by decide) (Nat.le_of_ble_eq_true rfl) rfl dX8_force_22 (c_X8_in   ?_))
    show J _ _ _ _ _ _ _ [vI (b2i (0 ≤ x1 ∧ x1 ≤ ((gi h 2 3) - 1)))] _
    refine J_if_eq (tgt := 37) dX8_force_25 (by decide) (fun c => ?_) (fun c => ?_)
    · replace K := K.2 (b2i_0.mp c)
      refine J_aload_n rfl dX8_force_37 ?_
      refine J_bipush (by decide) (by decide) dX8_force_38 ?_
      refine J_b0 (J_callV (b1 := 0) (ci := 8) (vs := [vI (-2)]) (rest := []) (Or.inl rfl) ml_RX8_170 rfl (by decide) rfl rfl (Or.inl rfl) (Nat.le_of_ble_eq_true rfl) rfl dX8_force_40 (c_X8_tell  K.1 K.2.1 ?_))
      replace K := K.2.2
      replace K := K _ rfl
      show J _ _ _ _ _ _ _ [vI (-2)] _
      exact J_ireturn rfl dX8_force_43 K
    · replace K := K.1 (b2i_n0.mp c)
      refine J_aload_n rfl dX8_force_28 ?_
      refine J_iconst (by decide) dX8_force_29 ?_
      refine J_iload_n rfl dX8_force_30 ?_
      refine J_b0 (J_callV (b1 := 0) (ci := 8) (vs := [vI 4, vI x1]) (rest := []) (Or.inl rfl) ml_RX8_223 rfl (by decide) rfl rfl (Or.inl rfl) (Nat.le_of_ble_eq_true rfl) rfl dX8_force_31 (c_X8_change  K.1 ?_))
      replace K := K.2
      replace K := K _ rfl
      show J _ _ _ _ _ _ _ [vI _] _
      refine J_goto (tgt := 43) dX8_force_34 (by decide) ?_
      exact J_ireturn rfl dX8_force_43 K
def Lp_X7_at_50 (d b : Nat) (Q : Option AV → AH → Prop)  (y1 : Int) (y3 : Int) (y4 : Int) (h : AH) : Prop := J GX (d + 1) b mX7_at Q 50 [some (vR (some 0)), some (vI y1), none, some (vI y3), some (vI y4)] [] h
set_option maxRecDepth 20000 in
set_option maxHeartbeats 2000000 in
theorem l_X7_at_50 {d b : Nat} {Q : Option AV → AH → Prop} {h : AH}  {y1 : Int} {y3 : Int} {y4 : Int}  (K : (gi h 1 2 ≤ y4 → Q (some (vI y3)) h) ∧ (¬(gi h 1 2 ≤ y4) → (0 ≤ y4 ∧ y4 < 8) ∧ (gi h 8 y4 = y1 → R32 (y3 + 1) ∧ R32 (y4 + 1) ∧ Lp_X7_at_50 d b Q y1 (y3 + 1) (y4 + 1) h) ∧ (¬(gi h 8 y4 = y1) → R32 (y4 + 1) ∧ Lp_X7_at_50 d b Q y1 y3 (y4 + 1) h))) : Lp_X7_at_50 d b Q y1 y3 y4 h := by
  unfold Lp_X7_at_50
  refine J_iload rfl dX7_at_50 ?_
  refine J_aload_n rfl dX7_at_52 ?_
  refine J_getS (r := 1) fl_RX7_10 rfl (Or.inl rfl) rfl dX7_at_53 ?_
  refine J_getI fl_RX7_111 rfl (Or.inl rfl) dX7_at_56 ?_
  refine J_icmp_ge (tgt := 85) dX7_at_59 (by decide) (fun c => ?_) (fun c => ?_)
  · replace K := K.1 c
    refine J_iload_n rfl dX7_at_85 ?_
    exact J_ireturn rfl dX7_at_86 K
  · replace K := K.2 c
    refine J_aload_n rfl dX7_at_62 ?_
    refine J_getS (r := 1) fl_RX7_10 rfl (Or.inl rfl) rfl dX7_at_63 ?_
    refine J_getS (r := 8) fl_RX7_129 rfl (Or.inl rfl) rfl dX7_at_66 ?_
    refine J_iload rfl dX7_at_69 ?_
    refine J_iaload (Or.inl rfl) K.1 dX7_at_71 ?_
    replace K := K.2
    refine J_iload_n rfl dX7_at_72 ?_
    refine J_icmp_ne (tgt := 79) dX7_at_73 (by decide) (fun c => ?_) (fun c => ?_)
    · replace K := K.2 c
      refine J_iinc (loc' := [some (vR (some 0)), some (vI y1), none, some (vI y3), some (vI (y4 + 1))]) (by decide) rfl K.1 rfl dX7_at_79 ?_
      replace K := K.2
      refine J_goto (tgt := 50) dX7_at_82 (by decide) ?_
      exact J_forget (loc' := [some (vR (some 0)), some (vI y1), none, some (vI y3), some (vI (y4 + 1))]) (And.intro (Or.inr rfl) (And.intro (Or.inr rfl) (And.intro (Or.inl rfl) (And.intro (Or.inr rfl) (And.intro (Or.inr rfl) True.intro))))) K
    · replace K := K.1 c
      refine J_iinc (loc' := [some (vR (some 0)), some (vI y1), none, some (vI (y3 + 1)), some (vI y4)]) (by decide) rfl K.1 rfl dX7_at_76 ?_
      replace K := K.2
      refine J_iinc (loc' := [some (vR (some 0)), some (vI y1), none, some (vI (y3 + 1)), some (vI (y4 + 1))]) (by decide) rfl K.1 rfl dX7_at_79 ?_
      replace K := K.2
      refine J_goto (tgt := 50) dX7_at_82 (by decide) ?_
      exact J_forget (loc' := [some (vR (some 0)), some (vI y1), none, some (vI (y3 + 1)), some (vI (y4 + 1))]) (And.intro (Or.inr rfl) (And.intro (Or.inr rfl) (And.intro (Or.inl rfl) (And.intro (Or.inr rfl) (And.intro (Or.inr rfl) True.intro))))) K
set_option maxRecDepth 20000 in
set_option maxHeartbeats 2000000 in
theorem w_X7_at {d b : Nat} {Q : Option AV → AH → Prop} {h : AH} {x1 : Int} {x2 : Int}  (K : R32 x1 → R32 x2 → ((0 : Int) ≤ x1 ∧ (x1 : Int) < 25 → (x2 = 0 → (0 ≤ x1 ∧ x1 < 25) ∧ Q (some (vI (gi h 10 x1))) h) ∧ (¬(x2 = 0) → (x2 = 1 → (0 ≤ x1 ∧ x1 < 25) ∧ Q (some (vI (gi h 11 x1))) h) ∧ (¬(x2 = 1) → (x2 = 2 → Lp_X7_at_50 d b Q x1 0 0 h) ∧ (¬(x2 = 2) → Q (some (vI (-1))) h)))) ∧ (¬((0 : Int) ≤ x1 ∧ (x1 : Int) < 25) → Q (some (vI (-1))) h)) : WM GX (d + 1) b mX7_at [vR (some 0), vI x1, vI x2] h Q := by
  refine WM_introE (loc' := [some (vR (some 0)), some (vI x1), some (vI x2), none, none]) rfl (by decide) (Nat.le_of_ble_eq_true rfl) ?_
  refine J_rgl (i := 1) rfl (fun r1 => ?_)
  replace K := K r1
  refine J_rgl (i := 2) rfl (fun r2 => ?_)
  replace K := K r2
  refine J_iload_n rfl dX7_at_0 ?_
  refine J_b0 (J_callS (b1 := 0) (vs := [vI x1]) (rest := []) (Or.inl rfl) ml_RX7_152 rfl (by decide) (Nat.le_of_ble_eq_true rfl) rfl dX7_at_1 (c_X7_isCell   ?_))
  show J _ _ _ _ _ _ _ [vI (b2i ((0 : Int) ≤ x1 ∧ (x1 : Int) < 25))] _
  refine J_if_ne (tgt := 9) dX7_at_4 (by decide) (fun c => ?_) (fun c => ?_)
  · replace K := K.1 (b2i_n0.mp c)
    refine J_iload_n rfl dX7_at_9 ?_
    refine J_if_ne (tgt := 23) dX7_at_10 (by decide) (fun c => ?_) (fun c => ?_)
    · replace K := K.2 c
      refine J_iload_n rfl dX7_at_23 ?_
      refine J_iconst (by decide) dX7_at_24 ?_
      refine J_icmp_ne (tgt := 38) dX7_at_25 (by decide) (fun c => ?_) (fun c => ?_)
      · replace K := K.2 c
        refine J_iload_n rfl dX7_at_38 ?_
        refine J_iconst (by decide) dX7_at_39 ?_
        refine J_icmp_eq (tgt := 45) dX7_at_40 (by decide) (fun c => ?_) (fun c => ?_)
        · replace K := K.1 c
          refine J_iconst (by decide) dX7_at_45 ?_
          refine J_istore_n (loc' := [some (vR (some 0)), some (vI x1), some (vI x2), some (vI 0), none]) (by decide) rfl dX7_at_46 ?_
          refine J_iconst (by decide) dX7_at_47 ?_
          refine J_istore (loc' := [some (vR (some 0)), some (vI x1), some (vI x2), some (vI 0), some (vI 0)]) (by decide) rfl dX7_at_48 ?_
          exact J_forget (loc' := [some (vR (some 0)), some (vI x1), none, some (vI 0), some (vI 0)]) (And.intro (Or.inr rfl) (And.intro (Or.inr rfl) (And.intro (Or.inl rfl) (And.intro (Or.inr rfl) (And.intro (Or.inr rfl) True.intro))))) K
        · replace K := K.2 c
          refine J_iconst (by decide) dX7_at_43 ?_
          exact J_ireturn rfl dX7_at_44 K
      · replace K := K.1 c
        refine J_aload_n rfl dX7_at_28 ?_
        refine J_getS (r := 1) fl_RX7_10 rfl (Or.inl rfl) rfl dX7_at_29 ?_
        refine J_getS (r := 11) fl_RX7_158 rfl (Or.inl rfl) rfl dX7_at_32 ?_
        refine J_iload_n rfl dX7_at_35 ?_
        refine J_iaload (Or.inl rfl) K.1 dX7_at_36 ?_
        replace K := K.2
        exact J_ireturn rfl dX7_at_37 K
    · replace K := K.1 c
      refine J_aload_n rfl dX7_at_13 ?_
      refine J_getS (r := 1) fl_RX7_10 rfl (Or.inl rfl) rfl dX7_at_14 ?_
      refine J_getS (r := 10) fl_RX7_155 rfl (Or.inl rfl) rfl dX7_at_17 ?_
      refine J_iload_n rfl dX7_at_20 ?_
      refine J_iaload (Or.inl rfl) K.1 dX7_at_21 ?_
      replace K := K.2
      exact J_ireturn rfl dX7_at_22 K
  · replace K := K.2 (b2i_0.mp c)
    refine J_iconst (by decide) dX7_at_7 ?_
    exact J_ireturn rfl dX7_at_8 K
def Lp_X8_at_55 (d b : Nat) (Q : Option AV → AH → Prop)  (y1 : Int) (y3 : Int) (y4 : Int) (h : AH) : Prop := J GM (d + 2) b mX8_at Q 55 [some (vR (some 0)), some (vI y1), none, some (vI y3), some (vI y4)] [] h
set_option maxRecDepth 20000 in
set_option maxHeartbeats 2000000 in
theorem l_X8_at_55 {d b : Nat} {Q : Option AV → AH → Prop} {h : AH}  {y1 : Int} {y3 : Int} {y4 : Int}  (K : (gi h 2 1 ≤ y4 → Q (some (vI y3)) h) ∧ (¬(gi h 2 1 ≤ y4) → R32 (15 + y4) ∧ (0 ≤ 15 + y4 ∧ 15 + y4 < 5540) ∧ (gi h 2 (15 + y4) = y1 → R32 (y3 + 1) ∧ R32 (y4 + 1) ∧ Lp_X8_at_55 d b Q y1 (y3 + 1) (y4 + 1) h) ∧ (¬(gi h 2 (15 + y4) = y1) → R32 (y3 + 0) ∧ R32 (y4 + 1) ∧ Lp_X8_at_55 d b Q y1 (y3 + 0) (y4 + 1) h))) : Lp_X8_at_55 d b Q y1 y3 y4 h := by
  unfold Lp_X8_at_55
  refine J_iload rfl dX8_at_55 ?_
  refine J_aload_n rfl dX8_at_57 ?_
  refine J_getS (r := 2) fl_RX8_13 rfl (Or.inl rfl) rfl dX8_at_58 ?_
  refine J_iconst (by decide) dX8_at_61 ?_
  refine J_iaload (Or.inl rfl) (by decide) dX8_at_62 ?_
  refine J_icmp_ge (tgt := 94) dX8_at_63 (by decide) (fun c => ?_) (fun c => ?_)
  · replace K := K.1 c
    refine J_iload_n rfl dX8_at_94 ?_
    exact J_ireturn rfl dX8_at_95 K
  · replace K := K.2 c
    refine J_iload_n rfl dX8_at_66 ?_
    refine J_aload_n rfl dX8_at_67 ?_
    refine J_getS (r := 2) fl_RX8_13 rfl (Or.inl rfl) rfl dX8_at_68 ?_
    refine J_bipush (by decide) (by decide) dX8_at_71 ?_
    refine J_iload rfl dX8_at_73 ?_
    refine J_iadd K.1 dX8_at_75 ?_
    replace K := K.2
    refine J_iaload (Or.inl rfl) K.1 dX8_at_76 ?_
    replace K := K.2
    refine J_iload_n rfl dX8_at_77 ?_
    refine J_icmp_ne (tgt := 85) dX8_at_78 (by decide) (fun c => ?_) (fun c => ?_)
    · replace K := K.2 c
      refine J_iconst (by decide) dX8_at_85 ?_
      refine J_iadd K.1 dX8_at_86 ?_
      replace K := K.2
      refine J_istore_n (loc' := [some (vR (some 0)), some (vI y1), none, some (vI (y3 + 0)), some (vI y4)]) (by decide) rfl dX8_at_87 ?_
      refine J_iinc (loc' := [some (vR (some 0)), some (vI y1), none, some (vI (y3 + 0)), some (vI (y4 + 1))]) (by decide) rfl K.1 rfl dX8_at_88 ?_
      replace K := K.2
      refine J_goto (tgt := 55) dX8_at_91 (by decide) ?_
      exact J_forget (loc' := [some (vR (some 0)), some (vI y1), none, some (vI (y3 + 0)), some (vI (y4 + 1))]) (And.intro (Or.inr rfl) (And.intro (Or.inr rfl) (And.intro (Or.inl rfl) (And.intro (Or.inr rfl) (And.intro (Or.inr rfl) True.intro))))) K
    · replace K := K.1 c
      refine J_iconst (by decide) dX8_at_81 ?_
      refine J_goto (tgt := 86) dX8_at_82 (by decide) ?_
      refine J_iadd K.1 dX8_at_86 ?_
      replace K := K.2
      refine J_istore_n (loc' := [some (vR (some 0)), some (vI y1), none, some (vI (y3 + 1)), some (vI y4)]) (by decide) rfl dX8_at_87 ?_
      refine J_iinc (loc' := [some (vR (some 0)), some (vI y1), none, some (vI (y3 + 1)), some (vI (y4 + 1))]) (by decide) rfl K.1 rfl dX8_at_88 ?_
      replace K := K.2
      refine J_goto (tgt := 55) dX8_at_91 (by decide) ?_
      exact J_forget (loc' := [some (vR (some 0)), some (vI y1), none, some (vI (y3 + 1)), some (vI (y4 + 1))]) (And.intro (Or.inr rfl) (And.intro (Or.inr rfl) (And.intro (Or.inl rfl) (And.intro (Or.inr rfl) (And.intro (Or.inr rfl) True.intro))))) K
set_option maxRecDepth 20000 in
set_option maxHeartbeats 2000000 in
theorem w_X8_at {d b : Nat} {Q : Option AV → AH → Prop} {h : AH} {x1 : Int} {x2 : Int}  (K : R32 x1 → R32 x2 → ∀ h1, h1 = si h 0 0 0 → ((0 : Int) ≤ x1 ∧ (x1 : Int) < 25 → (0 ≤ x2 ∧ x2 ≤ 2 → (2 ≤ x2 → Lp_X8_at_55 d b Q x1 0 0 h1) ∧ (¬(2 ≤ x2) → (x2 = 0 → R32 (39 + x1) ∧ (0 ≤ 39 + x1 ∧ 39 + x1 < 5540) ∧ Q (some (vI (gi h 2 (39 + x1)))) h1) ∧ (¬(x2 = 0) → R32 (104 + x1) ∧ (0 ≤ 104 + x1 ∧ 104 + x1 < 5540) ∧ Q (some (vI (gi h 2 (104 + x1)))) h1))) ∧ (¬(0 ≤ x2 ∧ x2 ≤ 2) → Q (some (vI (-1))) h1)) ∧ (¬((0 : Int) ≤ x1 ∧ (x1 : Int) < 25) → Q (some (vI (-1))) h1)) : WM GM (d + 2) b mX8_at [vR (some 0), vI x1, vI x2] h Q := by
  refine WM_introE (loc' := [some (vR (some 0)), some (vI x1), some (vI x2), none, none]) rfl (by decide) (Nat.le_of_ble_eq_true rfl) ?_
  refine J_rgl (i := 1) rfl (fun r1 => ?_)
  replace K := K r1
  refine J_rgl (i := 2) rfl (fun r2 => ?_)
  replace K := K r2
  refine J_aload_n rfl dX8_at_0 ?_
  refine J_iconst (by decide) dX8_at_1 ?_
  refine J_putI fl_RX8_161 rfl (Or.inl rfl) dX8_at_2 ?_
  replace K := K _ rfl
  refine J_iload_n rfl dX8_at_5 ?_
  refine J_b0 (J_callS (b1 := 0) (vs := [vI x1]) (rest := []) (Or.inl rfl) ml_RX8_217 rfl (by decide) (Nat.le_of_ble_eq_true rfl) rfl dX8_at_6 (c_X8_isCell   ?_))
  show J _ _ _ _ _ _ _ [vI (b2i ((0 : Int) ≤ x1 ∧ (x1 : Int) < 25))] _
  refine J_if_eq (tgt := 24) dX8_at_9 (by decide) (fun c => ?_) (fun c => ?_)
  · replace K := K.2 (b2i_0.mp c)
    refine J_iconst (by decide) dX8_at_24 ?_
    exact J_ireturn rfl dX8_at_25 K
  · replace K := K.1 (b2i_n0.mp c)
    refine J_iload_n rfl dX8_at_12 ?_
    refine J_i2l dX8_at_13 ?_
    refine J_lconst (x := 0) (by decide) (by decide) dX8_at_14 ?_
    refine J_ldc2 (n := 2) (by decide) (by decide) kc_RX8_227 dX8_at_15 ?_
    refine J_b0 (J_callS (b1 := 0) (vs := [vL x2, vL 0, vL 2]) (rest := []) (Or.inl rfl) ml_RX8_181 rfl (by decide) (Nat.le_of_ble_eq_true rfl) rfl dX8_at_18 (c_X8_in   ?_))
    show J _ _ _ _ _ _ _ [vI (b2i (0 ≤ x2 ∧ x2 ≤ 2))] _
    refine J_if_ne (tgt := 26) dX8_at_21 (by decide) (fun c => ?_) (fun c => ?_)
    · replace K := K.1 (b2i_n0.mp c)
      refine J_iload_n rfl dX8_at_26 ?_
      refine J_iconst (by decide) dX8_at_27 ?_
      refine J_icmp_ge (tgt := 50) dX8_at_28 (by decide) (fun c => ?_) (fun c => ?_)
      · replace K := K.1 c
        refine J_iconst (by decide) dX8_at_50 ?_
        refine J_istore_n (loc' := [some (vR (some 0)), some (vI x1), some (vI x2), some (vI 0), none]) (by decide) rfl dX8_at_51 ?_
        refine J_iconst (by decide) dX8_at_52 ?_
        refine J_istore (loc' := [some (vR (some 0)), some (vI x1), some (vI x2), some (vI 0), some (vI 0)]) (by decide) rfl dX8_at_53 ?_
        exact J_forget (loc' := [some (vR (some 0)), some (vI x1), none, some (vI 0), some (vI 0)]) (And.intro (Or.inr rfl) (And.intro (Or.inr rfl) (And.intro (Or.inl rfl) (And.intro (Or.inr rfl) (And.intro (Or.inr rfl) True.intro))))) K
      · replace K := K.2 c
        refine J_aload_n rfl dX8_at_31 ?_
        refine J_getS (r := 2) fl_RX8_13 rfl (Or.inl rfl) rfl dX8_at_32 ?_
        refine J_iload_n rfl dX8_at_35 ?_
        refine J_if_ne (tgt := 44) dX8_at_36 (by decide) (fun c => ?_) (fun c => ?_)
        · replace K := K.2 c
          refine J_bipush (by decide) (by decide) dX8_at_44 ?_
          refine J_iload_n rfl dX8_at_46 ?_
          refine J_iadd K.1 dX8_at_47 ?_
          replace K := K.2
          refine J_ialoade (Or.inl rfl) K.1 (gi_no (by decide)) dX8_at_48 ?_
          replace K := K.2
          exact J_ireturn rfl dX8_at_49 K
        · replace K := K.1 c
          refine J_bipush (by decide) (by decide) dX8_at_39 ?_
          refine J_goto (tgt := 46) dX8_at_41 (by decide) ?_
          refine J_iload_n rfl dX8_at_46 ?_
          refine J_iadd K.1 dX8_at_47 ?_
          replace K := K.2
          refine J_ialoade (Or.inl rfl) K.1 (gi_no (by decide)) dX8_at_48 ?_
          replace K := K.2
          exact J_ireturn rfl dX8_at_49 K
    · replace K := K.2 (b2i_0.mp c)
      refine J_iconst (by decide) dX8_at_24 ?_
      exact J_ireturn rfl dX8_at_25 K
set_option maxRecDepth 20000 in
set_option maxHeartbeats 2000000 in
theorem w_X7_put {d b : Nat} {Q : Option AV → AH → Prop} {h : AH} {x1 : Int} {x2 : Int} {x3 : Int}  (K : R32 x1 → R32 x2 → R32 x3 → ((0 : Int) ≤ x1 ∧ (x1 : Int) < 25 → (0 ≤ x3 → (x2 = 0 → (99 < x3 → (x2 = 1 → (4 < x3 → (∀ i : Int, 0 ≤ i → i < 5 → 0 ≤ gi h 14 i ∧ gi h 14 i ≤ 1000000) ∧ ∀ h8, h8 = xRef h (-1) → Q (some (vI (-1))) h8) ∧ (¬(4 < x3) → (0 ≤ x1 ∧ x1 < 25) ∧ (0 ≤ x1 ∧ x1 < 25) ∧ ∀ h9, h9 = si h 11 x1 x3 → ∀ h10, h10 = si h9 41 1 0 → ∀ h11, h11 = si h10 0 14 0 → Q (some (vI (gi h 11 x1))) h11)) ∧ (¬(x2 = 1) → (∀ i : Int, 0 ≤ i → i < 5 → 0 ≤ gi h 14 i ∧ gi h 14 i ≤ 1000000) ∧ ∀ h7, h7 = xRef h (-1) → Q (some (vI (-1))) h7)) ∧ (¬(99 < x3) → (0 ≤ x1 ∧ x1 < 25) ∧ (0 ≤ x1 ∧ x1 < 25) ∧ ∀ h12, h12 = si h 10 x1 x3 → ∀ h13, h13 = si h12 41 1 0 → ∀ h14, h14 = si h13 0 14 0 → Q (some (vI (gi h 10 x1))) h14)) ∧ (¬(x2 = 0) → (x2 = 1 → (4 < x3 → (∀ i : Int, 0 ≤ i → i < 5 → 0 ≤ gi h 14 i ∧ gi h 14 i ≤ 1000000) ∧ ∀ h3, h3 = xRef h (-1) → Q (some (vI (-1))) h3) ∧ (¬(4 < x3) → (0 ≤ x1 ∧ x1 < 25) ∧ (0 ≤ x1 ∧ x1 < 25) ∧ ∀ h4, h4 = si h 11 x1 x3 → ∀ h5, h5 = si h4 41 1 0 → ∀ h6, h6 = si h5 0 14 0 → Q (some (vI (gi h 11 x1))) h6)) ∧ (¬(x2 = 1) → (∀ i : Int, 0 ≤ i → i < 5 → 0 ≤ gi h 14 i ∧ gi h 14 i ≤ 1000000) ∧ ∀ h2, h2 = xRef h (-1) → Q (some (vI (-1))) h2))) ∧ (¬(0 ≤ x3) → (∀ i : Int, 0 ≤ i → i < 5 → 0 ≤ gi h 14 i ∧ gi h 14 i ≤ 1000000) ∧ ∀ h15, h15 = xRef h (-1) → Q (some (vI (-1))) h15)) ∧ (¬((0 : Int) ≤ x1 ∧ (x1 : Int) < 25) → (∀ i : Int, 0 ≤ i → i < 5 → 0 ≤ gi h 14 i ∧ gi h 14 i ≤ 1000000) ∧ ∀ h1, h1 = xRef h (-1) → Q (some (vI (-1))) h1)) : WM GX (d + 1) b mX7_put [vR (some 0), vI x1, vI x2, vI x3] h Q := by
  refine WM_introE (loc' := [some (vR (some 0)), some (vI x1), some (vI x2), some (vI x3), none]) rfl (by decide) (Nat.le_of_ble_eq_true rfl) ?_
  refine J_rgl (i := 1) rfl (fun r1 => ?_)
  replace K := K r1
  refine J_rgl (i := 2) rfl (fun r2 => ?_)
  replace K := K r2
  refine J_rgl (i := 3) rfl (fun r3 => ?_)
  replace K := K r3
  refine J_iload_n rfl dX7_put_0 ?_
  refine J_b0 (J_callS (b1 := 0) (vs := [vI x1]) (rest := []) (Or.inl rfl) ml_RX7_152 rfl (by decide) (Nat.le_of_ble_eq_true rfl) rfl dX7_put_1 (c_X7_isCell   ?_))
  show J _ _ _ _ _ _ _ [vI (b2i ((0 : Int) ≤ x1 ∧ (x1 : Int) < 25))] _
  refine J_if_eq (tgt := 11) dX7_put_4 (by decide) (fun c => ?_) (fun c => ?_)
  · replace K := K.2 (b2i_0.mp c)
    refine J_aload_n rfl dX7_put_11 ?_
    refine J_iconst (by decide) dX7_put_12 ?_
    refine J_b0 (J_callV (b1 := 0) (ci := 7) (vs := [vI (-1)]) (rest := []) (Or.inl rfl) ml_RX7_88 rfl (by decide) rfl rfl (Or.inl rfl) (Nat.le_of_ble_eq_true rfl) rfl dX7_put_13 (c_X7_refuse  K.1 ?_))
    replace K := K.2
    replace K := K _ rfl
    show J _ _ _ _ _ _ _ [vI (-1)] _
    exact J_ireturn rfl dX7_put_16 K
  · replace K := K.1 (b2i_n0.mp c)
    refine J_iload_n rfl dX7_put_7 ?_
    refine J_if_ge (tgt := 17) dX7_put_8 (by decide) (fun c => ?_) (fun c => ?_)
    · replace K := K.1 c
      refine J_iload_n rfl dX7_put_17 ?_
      refine J_if_ne (tgt := 63) dX7_put_18 (by decide) (fun c => ?_) (fun c => ?_)
      · replace K := K.2 c
        refine J_iload_n rfl dX7_put_63 ?_
        refine J_iconst (by decide) dX7_put_64 ?_
        refine J_icmp_ne (tgt := 109) dX7_put_65 (by decide) (fun c => ?_) (fun c => ?_)
        · replace K := K.2 c
          refine J_aload_n rfl dX7_put_109 ?_
          refine J_iconst (by decide) dX7_put_110 ?_
          refine J_b0 (J_callV (b1 := 0) (ci := 7) (vs := [vI (-1)]) (rest := []) (Or.inl rfl) ml_RX7_88 rfl (by decide) rfl rfl (Or.inl rfl) (Nat.le_of_ble_eq_true rfl) rfl dX7_put_111 (c_X7_refuse  K.1 ?_))
          replace K := K.2
          replace K := K _ rfl
          show J _ _ _ _ _ _ _ [vI (-1)] _
          exact J_ireturn rfl dX7_put_114 K
        · replace K := K.1 c
          refine J_iload_n rfl dX7_put_68 ?_
          refine J_iconst (by decide) dX7_put_69 ?_
          refine J_icmp_gt (tgt := 109) dX7_put_70 (by decide) (fun c => ?_) (fun c => ?_)
          · replace K := K.1 c
            refine J_aload_n rfl dX7_put_109 ?_
            refine J_iconst (by decide) dX7_put_110 ?_
            refine J_b0 (J_callV (b1 := 0) (ci := 7) (vs := [vI (-1)]) (rest := []) (Or.inl rfl) ml_RX7_88 rfl (by decide) rfl rfl (Or.inl rfl) (Nat.le_of_ble_eq_true rfl) rfl dX7_put_111 (c_X7_refuse  K.1 ?_))
            replace K := K.2
            replace K := K _ rfl
            show J _ _ _ _ _ _ _ [vI (-1)] _
            exact J_ireturn rfl dX7_put_114 K
          · replace K := K.2 c
            refine J_aload_n rfl dX7_put_73 ?_
            refine J_getS (r := 1) fl_RX7_10 rfl (Or.inl rfl) rfl dX7_put_74 ?_
            refine J_getS (r := 11) fl_RX7_158 rfl (Or.inl rfl) rfl dX7_put_77 ?_
            refine J_iload_n rfl dX7_put_80 ?_
            refine J_iaload (Or.inl rfl) K.1 dX7_put_81 ?_
            replace K := K.2
            refine J_istore (loc' := [some (vR (some 0)), some (vI x1), some (vI x2), some (vI x3), some (vI (gi h 11 x1))]) (by decide) rfl dX7_put_82 ?_
            refine J_aload_n rfl dX7_put_84 ?_
            refine J_getS (r := 1) fl_RX7_10 rfl (Or.inl rfl) rfl dX7_put_85 ?_
            refine J_getS (r := 11) fl_RX7_158 rfl (Or.inl rfl) rfl dX7_put_88 ?_
            refine J_iload_n rfl dX7_put_91 ?_
            refine J_iload_n rfl dX7_put_92 ?_
            refine J_iastore (Or.inl rfl) K.1 dX7_put_93 ?_
            replace K := K.2
            replace K := K _ rfl
            refine J_aload_n rfl dX7_put_94 ?_
            refine J_getS (r := 41) fl_RX7_57 rfl (Or.inl rfl) rfl dX7_put_95 ?_
            refine J_iconst (by decide) dX7_put_98 ?_
            refine J_putI fl_RX7_135 rfl (Or.inl rfl) dX7_put_99 ?_
            replace K := K _ rfl
            refine J_aload_n rfl dX7_put_102 ?_
            refine J_iload rfl dX7_put_103 ?_
            refine J_b0 (J_callV (b1 := 0) (ci := 7) (vs := [vI (gi h 11 x1)]) (rest := []) (Or.inl rfl) ml_RX7_98 rfl (by decide) rfl rfl (Or.inl rfl) (Nat.le_of_ble_eq_true rfl) rfl dX7_put_105 (c_X7_granted   ?_))
            replace K := K _ rfl
            show J _ _ _ _ _ _ _ [vI (gi h 11 x1)] _
            exact J_ireturn rfl dX7_put_108 K
      · replace K := K.1 c
        refine J_iload_n rfl dX7_put_21 ?_
        refine J_bipush (by decide) (by decide) dX7_put_22 ?_
        refine J_icmp_gt (tgt := 63) dX7_put_24 (by decide) (fun c => ?_) (fun c => ?_)
        · replace K := K.1 c
          refine J_iload_n rfl dX7_put_63 ?_
          refine J_iconst (by decide) dX7_put_64 ?_
          refine J_icmp_ne (tgt := 109) dX7_put_65 (by decide) (fun c => ?_) (fun c => ?_)
          · replace K := K.2 c
            refine J_aload_n rfl dX7_put_109 ?_
            refine J_iconst (by decide) dX7_put_110 ?_
            refine J_b0 (J_callV (b1 := 0) (ci := 7) (vs := [vI (-1)]) (rest := []) (Or.inl rfl) ml_RX7_88 rfl (by decide) rfl rfl (Or.inl rfl) (Nat.le_of_ble_eq_true rfl) rfl dX7_put_111 (c_X7_refuse  K.1 ?_))
            replace K := K.2
            replace K := K _ rfl
            show J _ _ _ _ _ _ _ [vI (-1)] _
            exact J_ireturn rfl dX7_put_114 K
          · replace K := K.1 c
            refine J_iload_n rfl dX7_put_68 ?_
            refine J_iconst (by decide) dX7_put_69 ?_
            refine J_icmp_gt (tgt := 109) dX7_put_70 (by decide) (fun c => ?_) (fun c => ?_)
            · replace K := K.1 c
              refine J_aload_n rfl dX7_put_109 ?_
              refine J_iconst (by decide) dX7_put_110 ?_
              refine J_b0 (J_callV (b1 := 0) (ci := 7) (vs := [vI (-1)]) (rest := []) (Or.inl rfl) ml_RX7_88 rfl (by decide) rfl rfl (Or.inl rfl) (Nat.le_of_ble_eq_true rfl) rfl dX7_put_111 (c_X7_refuse  K.1 ?_))
              replace K := K.2
              replace K := K _ rfl
              show J _ _ _ _ _ _ _ [vI (-1)] _
              exact J_ireturn rfl dX7_put_114 K
            · replace K := K.2 c
              refine J_aload_n rfl dX7_put_73 ?_
              refine J_getS (r := 1) fl_RX7_10 rfl (Or.inl rfl) rfl dX7_put_74 ?_
              refine J_getS (r := 11) fl_RX7_158 rfl (Or.inl rfl) rfl dX7_put_77 ?_
              refine J_iload_n rfl dX7_put_80 ?_
              refine J_iaload (Or.inl rfl) K.1 dX7_put_81 ?_
              replace K := K.2
              refine J_istore (loc' := [some (vR (some 0)), some (vI x1), some (vI x2), some (vI x3), some (vI (gi h 11 x1))]) (by decide) rfl dX7_put_82 ?_
              refine J_aload_n rfl dX7_put_84 ?_
              refine J_getS (r := 1) fl_RX7_10 rfl (Or.inl rfl) rfl dX7_put_85 ?_
              refine J_getS (r := 11) fl_RX7_158 rfl (Or.inl rfl) rfl dX7_put_88 ?_
              refine J_iload_n rfl dX7_put_91 ?_
              refine J_iload_n rfl dX7_put_92 ?_
              refine J_iastore (Or.inl rfl) K.1 dX7_put_93 ?_
              replace K := K.2
              replace K := K _ rfl
              refine J_aload_n rfl dX7_put_94 ?_
              refine J_getS (r := 41) fl_RX7_57 rfl (Or.inl rfl) rfl dX7_put_95 ?_
              refine J_iconst (by decide) dX7_put_98 ?_
              refine J_putI fl_RX7_135 rfl (Or.inl rfl) dX7_put_99 ?_
              replace K := K _ rfl
              refine J_aload_n rfl dX7_put_102 ?_
              refine J_iload rfl dX7_put_103 ?_
              refine J_b0 (J_callV (b1 := 0) (ci := 7) (vs := [vI (gi h 11 x1)]) (rest := []) (Or.inl rfl) ml_RX7_98 rfl (by decide) rfl rfl (Or.inl rfl) (Nat.le_of_ble_eq_true rfl) rfl dX7_put_105 (c_X7_granted   ?_))
              replace K := K _ rfl
              show J _ _ _ _ _ _ _ [vI (gi h 11 x1)] _
              exact J_ireturn rfl dX7_put_108 K
        · replace K := K.2 c
          refine J_aload_n rfl dX7_put_27 ?_
          refine J_getS (r := 1) fl_RX7_10 rfl (Or.inl rfl) rfl dX7_put_28 ?_
          refine J_getS (r := 10) fl_RX7_155 rfl (Or.inl rfl) rfl dX7_put_31 ?_
          refine J_iload_n rfl dX7_put_34 ?_
          refine J_iaload (Or.inl rfl) K.1 dX7_put_35 ?_
          replace K := K.2
          refine J_istore (loc' := [some (vR (some 0)), some (vI x1), some (vI x2), some (vI x3), some (vI (gi h 10 x1))]) (by decide) rfl dX7_put_36 ?_
          refine J_aload_n rfl dX7_put_38 ?_
          refine J_getS (r := 1) fl_RX7_10 rfl (Or.inl rfl) rfl dX7_put_39 ?_
          refine J_getS (r := 10) fl_RX7_155 rfl (Or.inl rfl) rfl dX7_put_42 ?_
          refine J_iload_n rfl dX7_put_45 ?_
          refine J_iload_n rfl dX7_put_46 ?_
          refine J_iastore (Or.inl rfl) K.1 dX7_put_47 ?_
          replace K := K.2
          replace K := K _ rfl
          refine J_aload_n rfl dX7_put_48 ?_
          refine J_getS (r := 41) fl_RX7_57 rfl (Or.inl rfl) rfl dX7_put_49 ?_
          refine J_iconst (by decide) dX7_put_52 ?_
          refine J_putI fl_RX7_135 rfl (Or.inl rfl) dX7_put_53 ?_
          replace K := K _ rfl
          refine J_aload_n rfl dX7_put_56 ?_
          refine J_iload rfl dX7_put_57 ?_
          refine J_b0 (J_callV (b1 := 0) (ci := 7) (vs := [vI (gi h 10 x1)]) (rest := []) (Or.inl rfl) ml_RX7_98 rfl (by decide) rfl rfl (Or.inl rfl) (Nat.le_of_ble_eq_true rfl) rfl dX7_put_59 (c_X7_granted   ?_))
          replace K := K _ rfl
          show J _ _ _ _ _ _ _ [vI (gi h 10 x1)] _
          exact J_ireturn rfl dX7_put_62 K
    · replace K := K.2 c
      refine J_aload_n rfl dX7_put_11 ?_
      refine J_iconst (by decide) dX7_put_12 ?_
      refine J_b0 (J_callV (b1 := 0) (ci := 7) (vs := [vI (-1)]) (rest := []) (Or.inl rfl) ml_RX7_88 rfl (by decide) rfl rfl (Or.inl rfl) (Nat.le_of_ble_eq_true rfl) rfl dX7_put_13 (c_X7_refuse  K.1 ?_))
      replace K := K.2
      replace K := K _ rfl
      show J _ _ _ _ _ _ _ [vI (-1)] _
      exact J_ireturn rfl dX7_put_16 K
set_option maxRecDepth 20000 in
set_option maxHeartbeats 2000000 in
theorem w_X8_put {d b : Nat} {Q : Option AV → AH → Prop} {h : AH} {x1 : Int} {x2 : Int} {x3 : Int}  (K : R32 x1 → R32 x2 → R32 x3 → ∀ h1, h1 = si h 0 0 0 → ((0 : Int) ≤ x1 ∧ (x1 : Int) < 25 → ((0 : Int) ≤ x3 ∧ (((x2 : Int) = 0 ∧ x3 ≤ 99) ∨ ((x2 : Int) = 1 ∧ x3 ≤ 4)) → ∀ h3, h3 = si h1 0 8 0 → (x2 = 0 → R32 (39 + x1) ∧ ((0 : Int) ≤ (39 + x1) ∧ ((39 + x1) : Int) < 5540) ∧ ∀ h5, h5 = si (si h3 2 (39 + x1) x3) 0 1 0 → Q (some (vI (gi h3 2 (39 + x1)))) h5) ∧ (¬(x2 = 0) → R32 (104 + x1) ∧ ((0 : Int) ≤ (104 + x1) ∧ ((104 + x1) : Int) < 5540) ∧ ∀ h4, h4 = si (si h3 2 (104 + x1) x3) 0 1 0 → Q (some (vI (gi h3 2 (104 + x1)))) h4)) ∧ (¬((0 : Int) ≤ x3 ∧ (((x2 : Int) = 0 ∧ x3 ≤ 99) ∨ ((x2 : Int) = 1 ∧ x3 ≤ 4))) → (-7 < (-1)) ∧ (∀ i : Int, 0 ≤ i → i < 7 → 0 ≤ gi h1 1 i ∧ gi h1 1 i ≤ 1000000) ∧ ∀ h6, h6 = mTell h1 (-1) → Q (some (vI (-1))) h6)) ∧ (¬((0 : Int) ≤ x1 ∧ (x1 : Int) < 25) → (-7 < (-1)) ∧ (∀ i : Int, 0 ≤ i → i < 7 → 0 ≤ gi h1 1 i ∧ gi h1 1 i ≤ 1000000) ∧ ∀ h2, h2 = mTell h1 (-1) → Q (some (vI (-1))) h2)) : WM GM (d + 2) b mX8_put [vR (some 0), vI x1, vI x2, vI x3] h Q := by
  refine WM_introE (loc' := [some (vR (some 0)), some (vI x1), some (vI x2), some (vI x3)]) rfl (by decide) (Nat.le_of_ble_eq_true rfl) ?_
  refine J_rgl (i := 1) rfl (fun r1 => ?_)
  replace K := K r1
  refine J_rgl (i := 2) rfl (fun r2 => ?_)
  replace K := K r2
  refine J_rgl (i := 3) rfl (fun r3 => ?_)
  replace K := K r3
  refine J_aload_n rfl dX8_put_0 ?_
  refine J_iconst (by decide) dX8_put_1 ?_
  refine J_putI fl_RX8_161 rfl (Or.inl rfl) dX8_put_2 ?_
  replace K := K _ rfl
  refine J_iload_n rfl dX8_put_5 ?_
  refine J_b0 (J_callS (b1 := 0) (vs := [vI x1]) (rest := []) (Or.inl rfl) ml_RX8_217 rfl (by decide) (Nat.le_of_ble_eq_true rfl) rfl dX8_put_6 (c_X8_isCell   ?_))
  show J _ _ _ _ _ _ _ [vI (b2i ((0 : Int) ≤ x1 ∧ (x1 : Int) < 25))] _
  refine J_if_eq (tgt := 20) dX8_put_9 (by decide) (fun c => ?_) (fun c => ?_)
  · replace K := K.2 (b2i_0.mp c)
    refine J_aload_n rfl dX8_put_20 ?_
    refine J_iconst (by decide) dX8_put_21 ?_
    refine J_b0 (J_callV (b1 := 0) (ci := 8) (vs := [vI (-1)]) (rest := []) (Or.inl rfl) ml_RX8_170 rfl (by decide) rfl rfl (Or.inl rfl) (Nat.le_of_ble_eq_true rfl) rfl dX8_put_22 (c_X8_tell  K.1 K.2.1 ?_))
    replace K := K.2.2
    replace K := K _ rfl
    show J _ _ _ _ _ _ _ [vI (-1)] _
    exact J_ireturn rfl dX8_put_25 K
  · replace K := K.1 (b2i_n0.mp c)
    refine J_iload_n rfl dX8_put_12 ?_
    refine J_iload_n rfl dX8_put_13 ?_
    refine J_b0 (J_callS (b1 := 0) (vs := [vI x2, vI x3]) (rest := []) (Or.inl rfl) ml_RX8_220 rfl (by decide) (Nat.le_of_ble_eq_true rfl) rfl dX8_put_14 (c_X8_canBe   ?_))
    show J _ _ _ _ _ _ _ [vI (b2i ((0 : Int) ≤ x3 ∧ (((x2 : Int) = 0 ∧ x3 ≤ 99) ∨ ((x2 : Int) = 1 ∧ x3 ≤ 4))))] _
    refine J_if_ne (tgt := 26) dX8_put_17 (by decide) (fun c => ?_) (fun c => ?_)
    · replace K := K.1 (b2i_n0.mp c)
      refine J_aload_n rfl dX8_put_26 ?_
      refine J_iconst (by decide) dX8_put_27 ?_
      refine J_putI fl_RX8_167 rfl (Or.inl rfl) dX8_put_28 ?_
      replace K := K _ rfl
      refine J_aload_n rfl dX8_put_31 ?_
      refine J_iload_n rfl dX8_put_32 ?_
      refine J_if_ne (tgt := 41) dX8_put_33 (by decide) (fun c => ?_) (fun c => ?_)
      · replace K := K.2 c
        refine J_bipush (by decide) (by decide) dX8_put_41 ?_
        refine J_iload_n rfl dX8_put_43 ?_
        refine J_iadd K.1 dX8_put_44 ?_
        replace K := K.2
        refine J_iload_n rfl dX8_put_45 ?_
        refine J_b0 (J_callV (b1 := 0) (ci := 8) (vs := [vI (104 + x1), vI x3]) (rest := []) (Or.inl rfl) ml_RX8_223 rfl (by decide) rfl rfl (Or.inl rfl) (Nat.le_of_ble_eq_true rfl) rfl dX8_put_46 (c_X8_change  K.1 ?_))
        replace K := K.2
        replace K := K _ rfl
        show J _ _ _ _ _ _ _ [vI _] _
        exact J_ireturn rfl dX8_put_49 K
      · replace K := K.1 c
        refine J_bipush (by decide) (by decide) dX8_put_36 ?_
        refine J_goto (tgt := 43) dX8_put_38 (by decide) ?_
        refine J_iload_n rfl dX8_put_43 ?_
        refine J_iadd K.1 dX8_put_44 ?_
        replace K := K.2
        refine J_iload_n rfl dX8_put_45 ?_
        refine J_b0 (J_callV (b1 := 0) (ci := 8) (vs := [vI (39 + x1), vI x3]) (rest := []) (Or.inl rfl) ml_RX8_223 rfl (by decide) rfl rfl (Or.inl rfl) (Nat.le_of_ble_eq_true rfl) rfl dX8_put_46 (c_X8_change  K.1 ?_))
        replace K := K.2
        replace K := K _ rfl
        show J _ _ _ _ _ _ _ [vI _] _
        exact J_ireturn rfl dX8_put_49 K
    · replace K := K.2 (b2i_0.mp c)
      refine J_aload_n rfl dX8_put_20 ?_
      refine J_iconst (by decide) dX8_put_21 ?_
      refine J_b0 (J_callV (b1 := 0) (ci := 8) (vs := [vI (-1)]) (rest := []) (Or.inl rfl) ml_RX8_170 rfl (by decide) rfl rfl (Or.inl rfl) (Nat.le_of_ble_eq_true rfl) rfl dX8_put_22 (c_X8_tell  K.1 K.2.1 ?_))
      replace K := K.2.2
      replace K := K _ rfl
      show J _ _ _ _ _ _ _ [vI (-1)] _
      exact J_ireturn rfl dX8_put_25 K
set_option maxRecDepth 20000 in
set_option maxHeartbeats 2000000 in
theorem w_X7_terms {d b : Nat} {Q : Option AV → AH → Prop} {h : AH} {x1 : Int} {x2 : Int}  (K : R32 x1 → R32 x2 → (x1 = 0 → (x2 < 0 → (x1 = 1 → (x2 < 0 → (∀ i : Int, 0 ≤ i → i < 5 → 0 ≤ gi h 14 i ∧ gi h 14 i ≤ 1000000) ∧ ∀ h8, h8 = xRef h (-1) → Q (some (vI (-1))) h8) ∧ (¬(x2 < 0) → (9 < x2 → (∀ i : Int, 0 ≤ i → i < 5 → 0 ≤ gi h 14 i ∧ gi h 14 i ≤ 1000000) ∧ ∀ h9, h9 = xRef h (-1) → Q (some (vI (-1))) h9) ∧ (¬(9 < x2) → ∀ h10, h10 = si h 1 15 x2 → ∀ h11, h11 = si h10 41 1 0 → ∀ h12, h12 = si h11 0 14 0 → Q (some (vI (gi h 1 15))) h12))) ∧ (¬(x1 = 1) → (∀ i : Int, 0 ≤ i → i < 5 → 0 ≤ gi h 14 i ∧ gi h 14 i ≤ 1000000) ∧ ∀ h7, h7 = xRef h (-1) → Q (some (vI (-1))) h7)) ∧ (¬(x2 < 0) → (999 < x2 → (x1 = 1 → (x2 < 0 → (∀ i : Int, 0 ≤ i → i < 5 → 0 ≤ gi h 14 i ∧ gi h 14 i ≤ 1000000) ∧ ∀ h14, h14 = xRef h (-1) → Q (some (vI (-1))) h14) ∧ (¬(x2 < 0) → (9 < x2 → (∀ i : Int, 0 ≤ i → i < 5 → 0 ≤ gi h 14 i ∧ gi h 14 i ≤ 1000000) ∧ ∀ h15, h15 = xRef h (-1) → Q (some (vI (-1))) h15) ∧ (¬(9 < x2) → ∀ h16, h16 = si h 1 15 x2 → ∀ h17, h17 = si h16 41 1 0 → ∀ h18, h18 = si h17 0 14 0 → Q (some (vI (gi h 1 15))) h18))) ∧ (¬(x1 = 1) → (∀ i : Int, 0 ≤ i → i < 5 → 0 ≤ gi h 14 i ∧ gi h 14 i ≤ 1000000) ∧ ∀ h13, h13 = xRef h (-1) → Q (some (vI (-1))) h13)) ∧ (¬(999 < x2) → ∀ h19, h19 = si h 1 14 x2 → ∀ h20, h20 = si h19 41 1 0 → ∀ h21, h21 = si h20 0 14 0 → Q (some (vI (gi h 1 14))) h21))) ∧ (¬(x1 = 0) → (x1 = 1 → (x2 < 0 → (∀ i : Int, 0 ≤ i → i < 5 → 0 ≤ gi h 14 i ∧ gi h 14 i ≤ 1000000) ∧ ∀ h2, h2 = xRef h (-1) → Q (some (vI (-1))) h2) ∧ (¬(x2 < 0) → (9 < x2 → (∀ i : Int, 0 ≤ i → i < 5 → 0 ≤ gi h 14 i ∧ gi h 14 i ≤ 1000000) ∧ ∀ h3, h3 = xRef h (-1) → Q (some (vI (-1))) h3) ∧ (¬(9 < x2) → ∀ h4, h4 = si h 1 15 x2 → ∀ h5, h5 = si h4 41 1 0 → ∀ h6, h6 = si h5 0 14 0 → Q (some (vI (gi h 1 15))) h6))) ∧ (¬(x1 = 1) → (∀ i : Int, 0 ≤ i → i < 5 → 0 ≤ gi h 14 i ∧ gi h 14 i ≤ 1000000) ∧ ∀ h1, h1 = xRef h (-1) → Q (some (vI (-1))) h1))) : WM GX (d + 1) b mX7_terms [vR (some 0), vI x1, vI x2] h Q := by
  refine WM_introE (loc' := [some (vR (some 0)), some (vI x1), some (vI x2), none]) rfl (by decide) (Nat.le_of_ble_eq_true rfl) ?_
  refine J_rgl (i := 1) rfl (fun r1 => ?_)
  replace K := K r1
  refine J_rgl (i := 2) rfl (fun r2 => ?_)
  replace K := K r2
  refine J_iload_n rfl dX7_terms_0 ?_
  refine J_if_ne (tgt := 45) dX7_terms_1 (by decide) (fun c => ?_) (fun c => ?_)
  · replace K := K.2 c
    refine J_iload_n rfl dX7_terms_45 ?_
    refine J_iconst (by decide) dX7_terms_46 ?_
    refine J_icmp_ne (tgt := 90) dX7_terms_47 (by decide) (fun c => ?_) (fun c => ?_)
    · replace K := K.2 c
      refine J_aload_n rfl dX7_terms_90 ?_
      refine J_iconst (by decide) dX7_terms_91 ?_
      refine J_b0 (J_callV (b1 := 0) (ci := 7) (vs := [vI (-1)]) (rest := []) (Or.inl rfl) ml_RX7_88 rfl (by decide) rfl rfl (Or.inl rfl) (Nat.le_of_ble_eq_true rfl) rfl dX7_terms_92 (c_X7_refuse  K.1 ?_))
      replace K := K.2
      replace K := K _ rfl
      show J _ _ _ _ _ _ _ [vI (-1)] _
      exact J_ireturn rfl dX7_terms_95 K
    · replace K := K.1 c
      refine J_iload_n rfl dX7_terms_50 ?_
      refine J_if_lt (tgt := 90) dX7_terms_51 (by decide) (fun c => ?_) (fun c => ?_)
      · replace K := K.1 c
        refine J_aload_n rfl dX7_terms_90 ?_
        refine J_iconst (by decide) dX7_terms_91 ?_
        refine J_b0 (J_callV (b1 := 0) (ci := 7) (vs := [vI (-1)]) (rest := []) (Or.inl rfl) ml_RX7_88 rfl (by decide) rfl rfl (Or.inl rfl) (Nat.le_of_ble_eq_true rfl) rfl dX7_terms_92 (c_X7_refuse  K.1 ?_))
        replace K := K.2
        replace K := K _ rfl
        show J _ _ _ _ _ _ _ [vI (-1)] _
        exact J_ireturn rfl dX7_terms_95 K
      · replace K := K.2 c
        refine J_iload_n rfl dX7_terms_54 ?_
        refine J_bipush (by decide) (by decide) dX7_terms_55 ?_
        refine J_icmp_gt (tgt := 90) dX7_terms_57 (by decide) (fun c => ?_) (fun c => ?_)
        · replace K := K.1 c
          refine J_aload_n rfl dX7_terms_90 ?_
          refine J_iconst (by decide) dX7_terms_91 ?_
          refine J_b0 (J_callV (b1 := 0) (ci := 7) (vs := [vI (-1)]) (rest := []) (Or.inl rfl) ml_RX7_88 rfl (by decide) rfl rfl (Or.inl rfl) (Nat.le_of_ble_eq_true rfl) rfl dX7_terms_92 (c_X7_refuse  K.1 ?_))
          replace K := K.2
          replace K := K _ rfl
          show J _ _ _ _ _ _ _ [vI (-1)] _
          exact J_ireturn rfl dX7_terms_95 K
        · replace K := K.2 c
          refine J_aload_n rfl dX7_terms_60 ?_
          refine J_getS (r := 1) fl_RX7_10 rfl (Or.inl rfl) rfl dX7_terms_61 ?_
          refine J_getI fl_RX7_178 rfl (Or.inl rfl) dX7_terms_64 ?_
          refine J_istore_n (loc' := [some (vR (some 0)), some (vI x1), some (vI x2), some (vI (gi h 1 15))]) (by decide) rfl dX7_terms_67 ?_
          refine J_aload_n rfl dX7_terms_68 ?_
          refine J_getS (r := 1) fl_RX7_10 rfl (Or.inl rfl) rfl dX7_terms_69 ?_
          refine J_iload_n rfl dX7_terms_72 ?_
          refine J_putI fl_RX7_178 rfl (Or.inl rfl) dX7_terms_73 ?_
          replace K := K _ rfl
          refine J_aload_n rfl dX7_terms_76 ?_
          refine J_getS (r := 41) fl_RX7_57 rfl (Or.inl rfl) rfl dX7_terms_77 ?_
          refine J_iconst (by decide) dX7_terms_80 ?_
          refine J_putI fl_RX7_135 rfl (Or.inl rfl) dX7_terms_81 ?_
          replace K := K _ rfl
          refine J_aload_n rfl dX7_terms_84 ?_
          refine J_iload_n rfl dX7_terms_85 ?_
          refine J_b0 (J_callV (b1 := 0) (ci := 7) (vs := [vI (gi h 1 15)]) (rest := []) (Or.inl rfl) ml_RX7_98 rfl (by decide) rfl rfl (Or.inl rfl) (Nat.le_of_ble_eq_true rfl) rfl dX7_terms_86 (c_X7_granted   ?_))
          replace K := K _ rfl
          show J _ _ _ _ _ _ _ [vI (gi h 1 15)] _
          exact J_ireturn rfl dX7_terms_89 K
  · replace K := K.1 c
    refine J_iload_n rfl dX7_terms_4 ?_
    refine J_if_lt (tgt := 45) dX7_terms_5 (by decide) (fun c => ?_) (fun c => ?_)
    · replace K := K.1 c
      refine J_iload_n rfl dX7_terms_45 ?_
      refine J_iconst (by decide) dX7_terms_46 ?_
      refine J_icmp_ne (tgt := 90) dX7_terms_47 (by decide) (fun c => ?_) (fun c => ?_)
      · replace K := K.2 c
        refine J_aload_n rfl dX7_terms_90 ?_
        refine J_iconst (by decide) dX7_terms_91 ?_
        refine J_b0 (J_callV (b1 := 0) (ci := 7) (vs := [vI (-1)]) (rest := []) (Or.inl rfl) ml_RX7_88 rfl (by decide) rfl rfl (Or.inl rfl) (Nat.le_of_ble_eq_true rfl) rfl dX7_terms_92 (c_X7_refuse  K.1 ?_))
        replace K := K.2
        replace K := K _ rfl
        show J _ _ _ _ _ _ _ [vI (-1)] _
        exact J_ireturn rfl dX7_terms_95 K
      · replace K := K.1 c
        refine J_iload_n rfl dX7_terms_50 ?_
        refine J_if_lt (tgt := 90) dX7_terms_51 (by decide) (fun c => ?_) (fun c => ?_)
        · replace K := K.1 c
          refine J_aload_n rfl dX7_terms_90 ?_
          refine J_iconst (by decide) dX7_terms_91 ?_
          refine J_b0 (J_callV (b1 := 0) (ci := 7) (vs := [vI (-1)]) (rest := []) (Or.inl rfl) ml_RX7_88 rfl (by decide) rfl rfl (Or.inl rfl) (Nat.le_of_ble_eq_true rfl) rfl dX7_terms_92 (c_X7_refuse  K.1 ?_))
          replace K := K.2
          replace K := K _ rfl
          show J _ _ _ _ _ _ _ [vI (-1)] _
          exact J_ireturn rfl dX7_terms_95 K
        · replace K := K.2 c
          refine J_iload_n rfl dX7_terms_54 ?_
          refine J_bipush (by decide) (by decide) dX7_terms_55 ?_
          refine J_icmp_gt (tgt := 90) dX7_terms_57 (by decide) (fun c => ?_) (fun c => ?_)
          · replace K := K.1 c
            refine J_aload_n rfl dX7_terms_90 ?_
            refine J_iconst (by decide) dX7_terms_91 ?_
            refine J_b0 (J_callV (b1 := 0) (ci := 7) (vs := [vI (-1)]) (rest := []) (Or.inl rfl) ml_RX7_88 rfl (by decide) rfl rfl (Or.inl rfl) (Nat.le_of_ble_eq_true rfl) rfl dX7_terms_92 (c_X7_refuse  K.1 ?_))
            replace K := K.2
            replace K := K _ rfl
            show J _ _ _ _ _ _ _ [vI (-1)] _
            exact J_ireturn rfl dX7_terms_95 K
          · replace K := K.2 c
            refine J_aload_n rfl dX7_terms_60 ?_
            refine J_getS (r := 1) fl_RX7_10 rfl (Or.inl rfl) rfl dX7_terms_61 ?_
            refine J_getI fl_RX7_178 rfl (Or.inl rfl) dX7_terms_64 ?_
            refine J_istore_n (loc' := [some (vR (some 0)), some (vI x1), some (vI x2), some (vI (gi h 1 15))]) (by decide) rfl dX7_terms_67 ?_
            refine J_aload_n rfl dX7_terms_68 ?_
            refine J_getS (r := 1) fl_RX7_10 rfl (Or.inl rfl) rfl dX7_terms_69 ?_
            refine J_iload_n rfl dX7_terms_72 ?_
            refine J_putI fl_RX7_178 rfl (Or.inl rfl) dX7_terms_73 ?_
            replace K := K _ rfl
            refine J_aload_n rfl dX7_terms_76 ?_
            refine J_getS (r := 41) fl_RX7_57 rfl (Or.inl rfl) rfl dX7_terms_77 ?_
            refine J_iconst (by decide) dX7_terms_80 ?_
            refine J_putI fl_RX7_135 rfl (Or.inl rfl) dX7_terms_81 ?_
            replace K := K _ rfl
            refine J_aload_n rfl dX7_terms_84 ?_
            refine J_iload_n rfl dX7_terms_85 ?_
            refine J_b0 (J_callV (b1 := 0) (ci := 7) (vs := [vI (gi h 1 15)]) (rest := []) (Or.inl rfl) ml_RX7_98 rfl (by decide) rfl rfl (Or.inl rfl) (Nat.le_of_ble_eq_true rfl) rfl dX7_terms_86 (c_X7_granted   ?_))
            replace K := K _ rfl
            show J _ _ _ _ _ _ _ [vI (gi h 1 15)] _
            exact J_ireturn rfl dX7_terms_89 K
    · replace K := K.2 c
      refine J_iload_n rfl dX7_terms_8 ?_
      refine J_sipush (by decide) (by decide) dX7_terms_9 ?_
      refine J_icmp_gt (tgt := 45) dX7_terms_12 (by decide) (fun c => ?_) (fun c => ?_)
      · replace K := K.1 c
        refine J_iload_n rfl dX7_terms_45 ?_
        refine J_iconst (by decide) dX7_terms_46 ?_
        refine J_icmp_ne (tgt := 90) dX7_terms_47 (by decide) (fun c => ?_) (fun c => ?_)
        · replace K := K.2 c
          refine J_aload_n rfl dX7_terms_90 ?_
          refine J_iconst (by decide) dX7_terms_91 ?_
          refine J_b0 (J_callV (b1 := 0) (ci := 7) (vs := [vI (-1)]) (rest := []) (Or.inl rfl) ml_RX7_88 rfl (by decide) rfl rfl (Or.inl rfl) (Nat.le_of_ble_eq_true rfl) rfl dX7_terms_92 (c_X7_refuse  K.1 ?_))
          replace K := K.2
          replace K := K _ rfl
          show J _ _ _ _ _ _ _ [vI (-1)] _
          exact J_ireturn rfl dX7_terms_95 K
        · replace K := K.1 c
          refine J_iload_n rfl dX7_terms_50 ?_
          refine J_if_lt (tgt := 90) dX7_terms_51 (by decide) (fun c => ?_) (fun c => ?_)
          · replace K := K.1 c
            refine J_aload_n rfl dX7_terms_90 ?_
            refine J_iconst (by decide) dX7_terms_91 ?_
            refine J_b0 (J_callV (b1 := 0) (ci := 7) (vs := [vI (-1)]) (rest := []) (Or.inl rfl) ml_RX7_88 rfl (by decide) rfl rfl (Or.inl rfl) (Nat.le_of_ble_eq_true rfl) rfl dX7_terms_92 (c_X7_refuse  K.1 ?_))
            replace K := K.2
            replace K := K _ rfl
            show J _ _ _ _ _ _ _ [vI (-1)] _
            exact J_ireturn rfl dX7_terms_95 K
          · replace K := K.2 c
            refine J_iload_n rfl dX7_terms_54 ?_
            refine J_bipush (by decide) (by decide) dX7_terms_55 ?_
            refine J_icmp_gt (tgt := 90) dX7_terms_57 (by decide) (fun c => ?_) (fun c => ?_)
            · replace K := K.1 c
              refine J_aload_n rfl dX7_terms_90 ?_
              refine J_iconst (by decide) dX7_terms_91 ?_
              refine J_b0 (J_callV (b1 := 0) (ci := 7) (vs := [vI (-1)]) (rest := []) (Or.inl rfl) ml_RX7_88 rfl (by decide) rfl rfl (Or.inl rfl) (Nat.le_of_ble_eq_true rfl) rfl dX7_terms_92 (c_X7_refuse  K.1 ?_))
              replace K := K.2
              replace K := K _ rfl
              show J _ _ _ _ _ _ _ [vI (-1)] _
              exact J_ireturn rfl dX7_terms_95 K
            · replace K := K.2 c
              refine J_aload_n rfl dX7_terms_60 ?_
              refine J_getS (r := 1) fl_RX7_10 rfl (Or.inl rfl) rfl dX7_terms_61 ?_
              refine J_getI fl_RX7_178 rfl (Or.inl rfl) dX7_terms_64 ?_
              refine J_istore_n (loc' := [some (vR (some 0)), some (vI x1), some (vI x2), some (vI (gi h 1 15))]) (by decide) rfl dX7_terms_67 ?_
              refine J_aload_n rfl dX7_terms_68 ?_
              refine J_getS (r := 1) fl_RX7_10 rfl (Or.inl rfl) rfl dX7_terms_69 ?_
              refine J_iload_n rfl dX7_terms_72 ?_
              refine J_putI fl_RX7_178 rfl (Or.inl rfl) dX7_terms_73 ?_
              replace K := K _ rfl
              refine J_aload_n rfl dX7_terms_76 ?_
              refine J_getS (r := 41) fl_RX7_57 rfl (Or.inl rfl) rfl dX7_terms_77 ?_
              refine J_iconst (by decide) dX7_terms_80 ?_
              refine J_putI fl_RX7_135 rfl (Or.inl rfl) dX7_terms_81 ?_
              replace K := K _ rfl
              refine J_aload_n rfl dX7_terms_84 ?_
              refine J_iload_n rfl dX7_terms_85 ?_
              refine J_b0 (J_callV (b1 := 0) (ci := 7) (vs := [vI (gi h 1 15)]) (rest := []) (Or.inl rfl) ml_RX7_98 rfl (by decide) rfl rfl (Or.inl rfl) (Nat.le_of_ble_eq_true rfl) rfl dX7_terms_86 (c_X7_granted   ?_))
              replace K := K _ rfl
              show J _ _ _ _ _ _ _ [vI (gi h 1 15)] _
              exact J_ireturn rfl dX7_terms_89 K
      · replace K := K.2 c
        refine J_aload_n rfl dX7_terms_15 ?_
        refine J_getS (r := 1) fl_RX7_10 rfl (Or.inl rfl) rfl dX7_terms_16 ?_
        refine J_getI fl_RX7_175 rfl (Or.inl rfl) dX7_terms_19 ?_
        refine J_istore_n (loc' := [some (vR (some 0)), some (vI x1), some (vI x2), some (vI (gi h 1 14))]) (by decide) rfl dX7_terms_22 ?_
        refine J_aload_n rfl dX7_terms_23 ?_
        refine J_getS (r := 1) fl_RX7_10 rfl (Or.inl rfl) rfl dX7_terms_24 ?_
        refine J_iload_n rfl dX7_terms_27 ?_
        refine J_putI fl_RX7_175 rfl (Or.inl rfl) dX7_terms_28 ?_
        replace K := K _ rfl
        refine J_aload_n rfl dX7_terms_31 ?_
        refine J_getS (r := 41) fl_RX7_57 rfl (Or.inl rfl) rfl dX7_terms_32 ?_
        refine J_iconst (by decide) dX7_terms_35 ?_
        refine J_putI fl_RX7_135 rfl (Or.inl rfl) dX7_terms_36 ?_
        replace K := K _ rfl
        refine J_aload_n rfl dX7_terms_39 ?_
        refine J_iload_n rfl dX7_terms_40 ?_
        refine J_b0 (J_callV (b1 := 0) (ci := 7) (vs := [vI (gi h 1 14)]) (rest := []) (Or.inl rfl) ml_RX7_98 rfl (by decide) rfl rfl (Or.inl rfl) (Nat.le_of_ble_eq_true rfl) rfl dX7_terms_41 (c_X7_granted   ?_))
        replace K := K _ rfl
        show J _ _ _ _ _ _ _ [vI (gi h 1 14)] _
        exact J_ireturn rfl dX7_terms_44 K
set_option maxRecDepth 20000 in
set_option maxHeartbeats 2000000 in
theorem w_X8_terms {d b : Nat} {Q : Option AV → AH → Prop} {h : AH} {x1 : Int} {x2 : Int}  (K : R32 x1 → R32 x2 → ∀ h1, h1 = si h 0 0 0 → (x1 = 0 → (0 ≤ x2 ∧ x2 ≤ 999 → ∀ h6, h6 = si h1 0 8 0 → R32 (5 + x1) ∧ ((0 : Int) ≤ (5 + x1) ∧ ((5 + x1) : Int) < 5540) ∧ ∀ h7, h7 = si (si h6 2 (5 + x1) x2) 0 1 0 → Q (some (vI (gi h6 2 (5 + x1)))) h7) ∧ (¬(0 ≤ x2 ∧ x2 ≤ 999) → (-7 < (-1)) ∧ (∀ i : Int, 0 ≤ i → i < 7 → 0 ≤ gi h1 1 i ∧ gi h1 1 i ≤ 1000000) ∧ ∀ h8, h8 = mTell h1 (-1) → Q (some (vI (-1))) h8)) ∧ (¬(x1 = 0) → (x1 = 1 → (0 ≤ x2 ∧ x2 ≤ 9 → ∀ h4, h4 = si h1 0 8 0 → R32 (5 + x1) ∧ ((0 : Int) ≤ (5 + x1) ∧ ((5 + x1) : Int) < 5540) ∧ ∀ h5, h5 = si (si h4 2 (5 + x1) x2) 0 1 0 → Q (some (vI (gi h4 2 (5 + x1)))) h5) ∧ (¬(0 ≤ x2 ∧ x2 ≤ 9) → (-7 < (-1)) ∧ (∀ i : Int, 0 ≤ i → i < 7 → 0 ≤ gi h1 1 i ∧ gi h1 1 i ≤ 1000000) ∧ ∀ h3, h3 = mTell h1 (-1) → Q (some (vI (-1))) h3)) ∧ (¬(x1 = 1) → (-7 < (-1)) ∧ (∀ i : Int, 0 ≤ i → i < 7 → 0 ≤ gi h1 1 i ∧ gi h1 1 i ≤ 1000000) ∧ ∀ h2, h2 = mTell h1 (-1) → Q (some (vI (-1))) h2))) : WM GM (d + 1) b mX8_terms [vR (some 0), vI x1, vI x2] h Q := by
  refine WM_introE (loc' := [some (vR (some 0)), some (vI x1), some (vI x2), none]) rfl (by decide) (Nat.le_of_ble_eq_true rfl) ?_
  refine J_rgl (i := 1) rfl (fun r1 => ?_)
  replace K := K r1
  refine J_rgl (i := 2) rfl (fun r2 => ?_)
  replace K := K r2
  refine J_aload_n rfl dX8_terms_0 ?_
  refine J_iconst (by decide) dX8_terms_1 ?_
  refine J_putI fl_RX8_161 rfl (Or.inl rfl) dX8_terms_2 ?_
  replace K := K _ rfl
  refine J_iload_n rfl dX8_terms_5 ?_
  refine J_if_ne (tgt := 21) dX8_terms_6 (by decide) (fun c => ?_) (fun c => ?_)
  · replace K := K.2 c
    refine J_iload_n rfl dX8_terms_21 ?_
    refine J_iconst (by decide) dX8_terms_22 ?_
    refine J_icmp_ne (tgt := 42) dX8_terms_23 (by decide) (fun c => ?_) (fun c => ?_)
    · replace K := K.2 c
      refine J_iconst (by decide) dX8_terms_42 ?_
      refine J_istore_n (loc' := [some (vR (some 0)), some (vI x1), some (vI x2), some (vI 0)]) (by decide) rfl dX8_terms_43 ?_
      refine J_iload_n rfl dX8_terms_44 ?_
      refine J_if_ne (tgt := 54) dX8_terms_45 (by decide) (fun c => absurd c (by decide)) (fun _ => ?_)
      refine J_aload_n rfl dX8_terms_48 ?_
      refine J_iconst (by decide) dX8_terms_49 ?_
      refine J_b0 (J_callV (b1 := 0) (ci := 8) (vs := [vI (-1)]) (rest := []) (Or.inl rfl) ml_RX8_170 rfl (by decide) rfl rfl (Or.inl rfl) (Nat.le_of_ble_eq_true rfl) rfl dX8_terms_50 (c_X8_tell  K.1 K.2.1 ?_))
      replace K := K.2.2
      replace K := K _ rfl
      show J _ _ _ _ _ _ _ [vI (-1)] _
      exact J_ireturn rfl dX8_terms_53 K
    · replace K := K.1 c
      refine J_iload_n rfl dX8_terms_26 ?_
      refine J_i2l dX8_terms_27 ?_
      refine J_lconst (x := 0) (by decide) (by decide) dX8_terms_28 ?_
      refine J_ldc2 (n := 9) (by decide) (by decide) kc_RX8_190 dX8_terms_29 ?_
      refine J_b0 (J_callS (b1 := 0) (vs := [vL x2, vL 0, vL 9]) (rest := []) (Or.inl rfl) ml_RX8_181 rfl (by decide) (Nat.le_of_ble_eq_true rfl) rfl dX8_terms_32 (c_X8_in   ?_))
      show J _ _ _ _ _ _ _ [vI (b2i (0 ≤ x2 ∧ x2 ≤ 9))] _
      refine J_if_eq (tgt := 42) dX8_terms_35 (by decide) (fun c => ?_) (fun c => ?_)
      · replace K := K.2 (b2i_0.mp c)
        refine J_iconst (by decide) dX8_terms_42 ?_
        refine J_istore_n (loc' := [some (vR (some 0)), some (vI x1), some (vI x2), some (vI 0)]) (by decide) rfl dX8_terms_43 ?_
        refine J_iload_n rfl dX8_terms_44 ?_
        refine J_if_ne (tgt := 54) dX8_terms_45 (by decide) (fun c => absurd c (by decide)) (fun _ => ?_)
        refine J_aload_n rfl dX8_terms_48 ?_
        refine J_iconst (by decide) dX8_terms_49 ?_
        refine J_b0 (J_callV (b1 := 0) (ci := 8) (vs := [vI (-1)]) (rest := []) (Or.inl rfl) ml_RX8_170 rfl (by decide) rfl rfl (Or.inl rfl) (Nat.le_of_ble_eq_true rfl) rfl dX8_terms_50 (c_X8_tell  K.1 K.2.1 ?_))
        replace K := K.2.2
        replace K := K _ rfl
        show J _ _ _ _ _ _ _ [vI (-1)] _
        exact J_ireturn rfl dX8_terms_53 K
      · replace K := K.1 (b2i_n0.mp c)
        refine J_iconst (by decide) dX8_terms_38 ?_
        refine J_goto (tgt := 43) dX8_terms_39 (by decide) ?_
        refine J_istore_n (loc' := [some (vR (some 0)), some (vI x1), some (vI x2), some (vI 1)]) (by decide) rfl dX8_terms_43 ?_
        refine J_iload_n rfl dX8_terms_44 ?_
        refine J_if_ne (tgt := 54) dX8_terms_45 (by decide) (fun _ => ?_) (fun c => absurd c (by decide))
        refine J_aload_n rfl dX8_terms_54 ?_
        refine J_iconst (by decide) dX8_terms_55 ?_
        refine J_putI fl_RX8_167 rfl (Or.inl rfl) dX8_terms_56 ?_
        replace K := K _ rfl
        refine J_aload_n rfl dX8_terms_59 ?_
        refine J_iconst (by decide) dX8_terms_60 ?_
        refine J_iload_n rfl dX8_terms_61 ?_
        refine J_iadd K.1 dX8_terms_62 ?_
        replace K := K.2
        refine J_iload_n rfl dX8_terms_63 ?_
        refine J_b0 (J_callV (b1 := 0) (ci := 8) (vs := [vI (5 + x1), vI x2]) (rest := []) (Or.inl rfl) ml_RX8_223 rfl (by decide) rfl rfl (Or.inl rfl) (Nat.le_of_ble_eq_true rfl) rfl dX8_terms_64 (c_X8_change  K.1 ?_))
        replace K := K.2
        replace K := K _ rfl
        show J _ _ _ _ _ _ _ [vI _] _
        exact J_ireturn rfl dX8_terms_67 K
  · replace K := K.1 c
    refine J_iload_n rfl dX8_terms_9 ?_
    refine J_i2l dX8_terms_10 ?_
    refine J_lconst (x := 0) (by decide) (by decide) dX8_terms_11 ?_
    refine J_ldc2 (n := 999) (by decide) (by decide) kc_RX8_236 dX8_terms_12 ?_
    refine J_b0 (J_callS (b1 := 0) (vs := [vL x2, vL 0, vL 999]) (rest := []) (Or.inl rfl) ml_RX8_181 rfl (by decide) (Nat.le_of_ble_eq_true rfl) rfl dX8_terms_15 (c_X8_in   ?_))
    show J _ _ _ _ _ _ _ [vI (b2i (0 ≤ x2 ∧ x2 ≤ 999))] _
    refine J_goto (tgt := 43) dX8_terms_18 (by decide) ?_
    refine J_istore_n (loc' := [some (vR (some 0)), some (vI x1), some (vI x2), some (vI (b2i (0 ≤ x2 ∧ x2 ≤ 999)))]) (by decide) rfl dX8_terms_43 ?_
    refine J_iload_n rfl dX8_terms_44 ?_
    refine J_if_ne (tgt := 54) dX8_terms_45 (by decide) (fun c => ?_) (fun c => ?_)
    · replace K := K.1 (b2i_n0.mp c)
      refine J_aload_n rfl dX8_terms_54 ?_
      refine J_iconst (by decide) dX8_terms_55 ?_
      refine J_putI fl_RX8_167 rfl (Or.inl rfl) dX8_terms_56 ?_
      replace K := K _ rfl
      refine J_aload_n rfl dX8_terms_59 ?_
      refine J_iconst (by decide) dX8_terms_60 ?_
      refine J_iload_n rfl dX8_terms_61 ?_
      refine J_iadd K.1 dX8_terms_62 ?_
      replace K := K.2
      refine J_iload_n rfl dX8_terms_63 ?_
      refine J_b0 (J_callV (b1 := 0) (ci := 8) (vs := [vI (5 + x1), vI x2]) (rest := []) (Or.inl rfl) ml_RX8_223 rfl (by decide) rfl rfl (Or.inl rfl) (Nat.le_of_ble_eq_true rfl) rfl dX8_terms_64 (c_X8_change  K.1 ?_))
      replace K := K.2
      replace K := K _ rfl
      show J _ _ _ _ _ _ _ [vI _] _
      exact J_ireturn rfl dX8_terms_67 K
    · replace K := K.2 (b2i_0.mp c)
      refine J_aload_n rfl dX8_terms_48 ?_
      refine J_iconst (by decide) dX8_terms_49 ?_
      refine J_b0 (J_callV (b1 := 0) (ci := 8) (vs := [vI (-1)]) (rest := []) (Or.inl rfl) ml_RX8_170 rfl (by decide) rfl rfl (Or.inl rfl) (Nat.le_of_ble_eq_true rfl) rfl dX8_terms_50 (c_X8_tell  K.1 K.2.1 ?_))
      replace K := K.2.2
      replace K := K _ rfl
      show J _ _ _ _ _ _ _ [vI (-1)] _
      exact J_ireturn rfl dX8_terms_53 K
set_option maxRecDepth 20000 in
set_option maxHeartbeats 2000000 in
theorem w_X7_count {d b : Nat} {Q : Option AV → AH → Prop} {h : AH} {x1 : Int}  (K : R32 x1 → (x1 < 8 → (x1 = 0 → Q (some (vI (gi h 1 0))) h) ∧ (¬(x1 = 0) → (x1 = 1 → Q (some (vI (gi h 1 2))) h) ∧ (¬(x1 = 1) → (x1 = 2 → Q (some (vI (gi h 1 12))) h) ∧ (¬(x1 = 2) → (x1 = 3 → (0 ≤ gi h 1 2 ∧ gi h 1 2 ≤ 8 ∧ 0 ≤ gi h 1 0 ∧ gi h 1 0 ≤ 8) ∧ Q (some (vI (sumZ (fun i => b2i (dIn (gi h 7) i (gi h 1 2).toNat 0 = -1)) (gi h 1 0).toNat 0))) h) ∧ (¬(x1 = 3) → (x1 = 4 → (0 ≤ gi h 1 2 ∧ gi h 1 2 ≤ 8) ∧ Q (some (vI (sumZ (fun i => b2i (gi h 7 i = -1 ∧ gi h 8 i = -1)) (gi h 1 2).toNat 0))) h) ∧ (¬(x1 = 4) → (x1 = 5 → Q (some (vI (gi h 1 16))) h) ∧ (¬(x1 = 5) → (x1 = 6 → Q (some (vI (gi h 41 1))) h) ∧ (¬(x1 = 6) → (x1 = 7 → Q (some (vI (gi h 29 1))) h) ∧ (¬(x1 = 7) → (x1 = 8 → Q (some (vI (-1))) h) ∧ (¬(x1 = 8) → (x1 = 9 → Q (some (vI (-1))) h) ∧ (¬(x1 = 9) → (x1 = 10 → Q (some (vI (-1))) h) ∧ (¬(x1 = 10) → (x1 = 11 → Q (some (vI (-1))) h) ∧ (¬(x1 = 11) → (x1 = 12 → Q (some (vI (-1))) h) ∧ (¬(x1 = 12) → (x1 = 13 → Q (some (vI (gi h 1 18))) h) ∧ (¬(x1 = 13) → (x1 = 14 → Q (some (vI (gi h 1 14))) h) ∧ (¬(x1 = 14) → (x1 = 15 → Q (some (vI (gi h 1 15))) h) ∧ (¬(x1 = 15) → Q (some (vI (-1))) h))))))))))))))))) ∧ (¬(x1 < 8) → (12 < x1 → (x1 = 0 → Q (some (vI (gi h 1 0))) h) ∧ (¬(x1 = 0) → (x1 = 1 → Q (some (vI (gi h 1 2))) h) ∧ (¬(x1 = 1) → (x1 = 2 → Q (some (vI (gi h 1 12))) h) ∧ (¬(x1 = 2) → (x1 = 3 → (0 ≤ gi h 1 2 ∧ gi h 1 2 ≤ 8 ∧ 0 ≤ gi h 1 0 ∧ gi h 1 0 ≤ 8) ∧ Q (some (vI (sumZ (fun i => b2i (dIn (gi h 7) i (gi h 1 2).toNat 0 = -1)) (gi h 1 0).toNat 0))) h) ∧ (¬(x1 = 3) → (x1 = 4 → (0 ≤ gi h 1 2 ∧ gi h 1 2 ≤ 8) ∧ Q (some (vI (sumZ (fun i => b2i (gi h 7 i = -1 ∧ gi h 8 i = -1)) (gi h 1 2).toNat 0))) h) ∧ (¬(x1 = 4) → (x1 = 5 → Q (some (vI (gi h 1 16))) h) ∧ (¬(x1 = 5) → (x1 = 6 → Q (some (vI (gi h 41 1))) h) ∧ (¬(x1 = 6) → (x1 = 7 → Q (some (vI (gi h 29 1))) h) ∧ (¬(x1 = 7) → (x1 = 8 → Q (some (vI (-1))) h) ∧ (¬(x1 = 8) → (x1 = 9 → Q (some (vI (-1))) h) ∧ (¬(x1 = 9) → (x1 = 10 → Q (some (vI (-1))) h) ∧ (¬(x1 = 10) → (x1 = 11 → Q (some (vI (-1))) h) ∧ (¬(x1 = 11) → (x1 = 12 → Q (some (vI (-1))) h) ∧ (¬(x1 = 12) → (x1 = 13 → Q (some (vI (gi h 1 18))) h) ∧ (¬(x1 = 13) → (x1 = 14 → Q (some (vI (gi h 1 14))) h) ∧ (¬(x1 = 14) → (x1 = 15 → Q (some (vI (gi h 1 15))) h) ∧ (¬(x1 = 15) → Q (some (vI (-1))) h))))))))))))))))) ∧ (¬(12 < x1) → R32 (x1 - 8) ∧ (0 ≤ x1 - 8 ∧ x1 - 8 < 5) ∧ Q (some (vI (gi h 14 (x1 - 8)))) h))) : WM GX (d + 2) b mX7_count [vR (some 0), vI x1] h Q := by
  refine WM_introE (loc' := [some (vR (some 0)), some (vI x1)]) rfl (by decide) (Nat.le_of_ble_eq_true rfl) ?_
  refine J_rgl (i := 1) rfl (fun r1 => ?_)
  replace K := K r1
  refine J_iload_n rfl dX7_count_0 ?_
  refine J_bipush (by decide) (by decide) dX7_count_1 ?_
  refine J_icmp_lt (tgt := 22) dX7_count_3 (by decide) (fun c => ?_) (fun c => ?_)
  · replace K := K.1 c
    refine J_iload_n rfl dX7_count_22 ?_
    by_cases c : x1 = 0
    · replace K := K.1 c
      refine J_tsIn (tgt := 100) 0 c (by decide) (by decide) rfl dX7_count_23 (by decide) ?_
      refine J_aload_n rfl dX7_count_100 ?_
      refine J_getS (r := 1) fl_RX7_10 rfl (Or.inl rfl) rfl dX7_count_101 ?_
      refine J_getI fl_RX7_92 rfl (Or.inl rfl) dX7_count_104 ?_
      exact J_ireturn rfl dX7_count_107 K
    replace K := K.2 c
    have cc1 := c
    clear c
    by_cases c : x1 = 1
    · replace K := K.1 c
      refine J_tsIn (tgt := 108) 1 c (by decide) (by decide) rfl dX7_count_23 (by decide) ?_
      refine J_aload_n rfl dX7_count_108 ?_
      refine J_getS (r := 1) fl_RX7_10 rfl (Or.inl rfl) rfl dX7_count_109 ?_
      refine J_getI fl_RX7_111 rfl (Or.inl rfl) dX7_count_112 ?_
      exact J_ireturn rfl dX7_count_115 K
    replace K := K.2 c
    have cc2 := c
    clear c
    by_cases c : x1 = 2
    · replace K := K.1 c
      refine J_tsIn (tgt := 116) 2 c (by decide) (by decide) rfl dX7_count_23 (by decide) ?_
      refine J_aload_n rfl dX7_count_116 ?_
      refine J_getS (r := 1) fl_RX7_10 rfl (Or.inl rfl) rfl dX7_count_117 ?_
      refine J_getI fl_RX7_169 rfl (Or.inl rfl) dX7_count_120 ?_
      exact J_ireturn rfl dX7_count_123 K
    replace K := K.2 c
    have cc3 := c
    clear c
    by_cases c : x1 = 3
    · replace K := K.1 c
      refine J_tsIn (tgt := 124) 3 c (by decide) (by decide) rfl dX7_count_23 (by decide) ?_
      refine J_aload_n rfl dX7_count_124 ?_
      refine J_getS (r := 1) fl_RX7_10 rfl (Or.inl rfl) rfl dX7_count_125 ?_
      refine J_b0 (J_callV (b1 := 0) (ci := 0) (vs := []) (rest := []) (Or.inr rfl) ml_RX7_313 rfl (by decide) rfl rfl (Or.inl rfl) (Nat.le_of_ble_eq_true rfl) rfl dX7_count_128 (c_X0_open (by decide) K.1 ?_))
      replace K := K.2
      show J _ _ _ _ _ _ _ [vI (sumZ (fun i => b2i (dIn (gi h 7) i (gi h 1 2).toNat 0 = -1)) (gi h 1 0).toNat 0)] _
      exact J_ireturn rfl dX7_count_131 K
    replace K := K.2 c
    have cc4 := c
    clear c
    by_cases c : x1 = 4
    · replace K := K.1 c
      refine J_tsIn (tgt := 132) 4 c (by decide) (by decide) rfl dX7_count_23 (by decide) ?_
      refine J_aload_n rfl dX7_count_132 ?_
      refine J_getS (r := 1) fl_RX7_10 rfl (Or.inl rfl) rfl dX7_count_133 ?_
      refine J_b0 (J_callV (b1 := 0) (ci := 0) (vs := []) (rest := []) (Or.inr rfl) ml_RX7_306 rfl (by decide) rfl rfl (Or.inl rfl) (Nat.le_of_ble_eq_true rfl) rfl dX7_count_136 (c_X0_lost (by decide) K.1 ?_))
      replace K := K.2
      show J _ _ _ _ _ _ _ [vI (sumZ (fun i => b2i (gi h 7 i = -1 ∧ gi h 8 i = -1)) (gi h 1 2).toNat 0)] _
      exact J_ireturn rfl dX7_count_139 K
    replace K := K.2 c
    have cc5 := c
    clear c
    by_cases c : x1 = 5
    · replace K := K.1 c
      refine J_tsIn (tgt := 140) 5 c (by decide) (by decide) rfl dX7_count_23 (by decide) ?_
      refine J_aload_n rfl dX7_count_140 ?_
      refine J_getS (r := 1) fl_RX7_10 rfl (Or.inl rfl) rfl dX7_count_141 ?_
      refine J_getI fl_RX7_191 rfl (Or.inl rfl) dX7_count_144 ?_
      exact J_ireturn rfl dX7_count_147 K
    replace K := K.2 c
    have cc6 := c
    clear c
    by_cases c : x1 = 6
    · replace K := K.1 c
      refine J_tsIn (tgt := 148) 6 c (by decide) (by decide) rfl dX7_count_23 (by decide) ?_
      refine J_aload_n rfl dX7_count_148 ?_
      refine J_getS (r := 41) fl_RX7_57 rfl (Or.inl rfl) rfl dX7_count_149 ?_
      refine J_getI fl_RX7_135 rfl (Or.inl rfl) dX7_count_152 ?_
      exact J_ireturn rfl dX7_count_155 K
    replace K := K.2 c
    have cc7 := c
    clear c
    by_cases c : x1 = 7
    · replace K := K.1 c
      refine J_tsIn (tgt := 156) 7 c (by decide) (by decide) rfl dX7_count_23 (by decide) ?_
      refine J_aload_n rfl dX7_count_156 ?_
      refine J_getS (r := 29) fl_RX7_36 rfl (Or.inl rfl) rfl dX7_count_157 ?_
      refine J_getI fl_RX7_181 rfl (Or.inl rfl) dX7_count_160 ?_
      exact J_ireturn rfl dX7_count_163 K
    replace K := K.2 c
    have cc8 := c
    clear c
    by_cases c : x1 = 8
    · replace K := K.1 c
      refine J_tsIn (tgt := 188) 8 c (by decide) (by decide) rfl dX7_count_23 (by decide) ?_
      refine J_iconst (by decide) dX7_count_188 ?_
      exact J_ireturn rfl dX7_count_189 K
    replace K := K.2 c
    have cc9 := c
    clear c
    by_cases c : x1 = 9
    · replace K := K.1 c
      refine J_tsIn (tgt := 188) 9 c (by decide) (by decide) rfl dX7_count_23 (by decide) ?_
      refine J_iconst (by decide) dX7_count_188 ?_
      exact J_ireturn rfl dX7_count_189 K
    replace K := K.2 c
    have cc10 := c
    clear c
    by_cases c : x1 = 10
    · replace K := K.1 c
      refine J_tsIn (tgt := 188) 10 c (by decide) (by decide) rfl dX7_count_23 (by decide) ?_
      refine J_iconst (by decide) dX7_count_188 ?_
      exact J_ireturn rfl dX7_count_189 K
    replace K := K.2 c
    have cc11 := c
    clear c
    by_cases c : x1 = 11
    · replace K := K.1 c
      refine J_tsIn (tgt := 188) 11 c (by decide) (by decide) rfl dX7_count_23 (by decide) ?_
      refine J_iconst (by decide) dX7_count_188 ?_
      exact J_ireturn rfl dX7_count_189 K
    replace K := K.2 c
    have cc12 := c
    clear c
    by_cases c : x1 = 12
    · replace K := K.1 c
      refine J_tsIn (tgt := 188) 12 c (by decide) (by decide) rfl dX7_count_23 (by decide) ?_
      refine J_iconst (by decide) dX7_count_188 ?_
      exact J_ireturn rfl dX7_count_189 K
    replace K := K.2 c
    have cc13 := c
    clear c
    by_cases c : x1 = 13
    · replace K := K.1 c
      refine J_tsIn (tgt := 164) 13 c (by decide) (by decide) rfl dX7_count_23 (by decide) ?_
      refine J_aload_n rfl dX7_count_164 ?_
      refine J_getS (r := 1) fl_RX7_10 rfl (Or.inl rfl) rfl dX7_count_165 ?_
      refine J_getI fl_RX7_233 rfl (Or.inl rfl) dX7_count_168 ?_
      exact J_ireturn rfl dX7_count_171 K
    replace K := K.2 c
    have cc14 := c
    clear c
    by_cases c : x1 = 14
    · replace K := K.1 c
      refine J_tsIn (tgt := 172) 14 c (by decide) (by decide) rfl dX7_count_23 (by decide) ?_
      refine J_aload_n rfl dX7_count_172 ?_
      refine J_getS (r := 1) fl_RX7_10 rfl (Or.inl rfl) rfl dX7_count_173 ?_
      refine J_getI fl_RX7_175 rfl (Or.inl rfl) dX7_count_176 ?_
      exact J_ireturn rfl dX7_count_179 K
    replace K := K.2 c
    have cc15 := c
    clear c
    by_cases c : x1 = 15
    · replace K := K.1 c
      refine J_tsIn (tgt := 180) 15 c (by decide) (by decide) rfl dX7_count_23 (by decide) ?_
      refine J_aload_n rfl dX7_count_180 ?_
      refine J_getS (r := 1) fl_RX7_10 rfl (Or.inl rfl) rfl dX7_count_181 ?_
      refine J_getI fl_RX7_178 rfl (Or.inl rfl) dX7_count_184 ?_
      exact J_ireturn rfl dX7_count_187 K
    replace K := K.2 c
    have cc16 := c
    clear c
    refine J_tsOut (tgt := 188) (by omega) dX7_count_23 (by decide) ?_
    refine J_iconst (by decide) dX7_count_188 ?_
    exact J_ireturn rfl dX7_count_189 K
  · replace K := K.2 c
    refine J_iload_n rfl dX7_count_6 ?_
    refine J_bipush (by decide) (by decide) dX7_count_7 ?_
    refine J_icmp_gt (tgt := 22) dX7_count_9 (by decide) (fun c => ?_) (fun c => ?_)
    · replace K := K.1 c
      refine J_iload_n rfl dX7_count_22 ?_
      by_cases c : x1 = 0
      · replace K := K.1 c
        refine J_tsIn (tgt := 100) 0 c (by decide) (by decide) rfl dX7_count_23 (by decide) ?_
        refine J_aload_n rfl dX7_count_100 ?_
        refine J_getS (r := 1) fl_RX7_10 rfl (Or.inl rfl) rfl dX7_count_101 ?_
        refine J_getI fl_RX7_92 rfl (Or.inl rfl) dX7_count_104 ?_
        exact J_ireturn rfl dX7_count_107 K
      replace K := K.2 c
      have cc17 := c
      clear c
      by_cases c : x1 = 1
      · replace K := K.1 c
        refine J_tsIn (tgt := 108) 1 c (by decide) (by decide) rfl dX7_count_23 (by decide) ?_
        refine J_aload_n rfl dX7_count_108 ?_
        refine J_getS (r := 1) fl_RX7_10 rfl (Or.inl rfl) rfl dX7_count_109 ?_
        refine J_getI fl_RX7_111 rfl (Or.inl rfl) dX7_count_112 ?_
        exact J_ireturn rfl dX7_count_115 K
      replace K := K.2 c
      have cc18 := c
      clear c
      by_cases c : x1 = 2
      · replace K := K.1 c
        refine J_tsIn (tgt := 116) 2 c (by decide) (by decide) rfl dX7_count_23 (by decide) ?_
        refine J_aload_n rfl dX7_count_116 ?_
        refine J_getS (r := 1) fl_RX7_10 rfl (Or.inl rfl) rfl dX7_count_117 ?_
        refine J_getI fl_RX7_169 rfl (Or.inl rfl) dX7_count_120 ?_
        exact J_ireturn rfl dX7_count_123 K
      replace K := K.2 c
      have cc19 := c
      clear c
      by_cases c : x1 = 3
      · replace K := K.1 c
        refine J_tsIn (tgt := 124) 3 c (by decide) (by decide) rfl dX7_count_23 (by decide) ?_
        refine J_aload_n rfl dX7_count_124 ?_
        refine J_getS (r := 1) fl_RX7_10 rfl (Or.inl rfl) rfl dX7_count_125 ?_
        refine J_b0 (J_callV (b1 := 0) (ci := 0) (vs := []) (rest := []) (Or.inr rfl) ml_RX7_313 rfl (by decide) rfl rfl (Or.inl rfl) (Nat.le_of_ble_eq_true rfl) rfl dX7_count_128 (c_X0_open (by decide) K.1 ?_))
        replace K := K.2
        show J _ _ _ _ _ _ _ [vI (sumZ (fun i => b2i (dIn (gi h 7) i (gi h 1 2).toNat 0 = -1)) (gi h 1 0).toNat 0)] _
        exact J_ireturn rfl dX7_count_131 K
      replace K := K.2 c
      have cc20 := c
      clear c
      by_cases c : x1 = 4
      · replace K := K.1 c
        refine J_tsIn (tgt := 132) 4 c (by decide) (by decide) rfl dX7_count_23 (by decide) ?_
        refine J_aload_n rfl dX7_count_132 ?_
        refine J_getS (r := 1) fl_RX7_10 rfl (Or.inl rfl) rfl dX7_count_133 ?_
        refine J_b0 (J_callV (b1 := 0) (ci := 0) (vs := []) (rest := []) (Or.inr rfl) ml_RX7_306 rfl (by decide) rfl rfl (Or.inl rfl) (Nat.le_of_ble_eq_true rfl) rfl dX7_count_136 (c_X0_lost (by decide) K.1 ?_))
        replace K := K.2
        show J _ _ _ _ _ _ _ [vI (sumZ (fun i => b2i (gi h 7 i = -1 ∧ gi h 8 i = -1)) (gi h 1 2).toNat 0)] _
        exact J_ireturn rfl dX7_count_139 K
      replace K := K.2 c
      have cc21 := c
      clear c
      by_cases c : x1 = 5
      · replace K := K.1 c
        refine J_tsIn (tgt := 140) 5 c (by decide) (by decide) rfl dX7_count_23 (by decide) ?_
        refine J_aload_n rfl dX7_count_140 ?_
        refine J_getS (r := 1) fl_RX7_10 rfl (Or.inl rfl) rfl dX7_count_141 ?_
        refine J_getI fl_RX7_191 rfl (Or.inl rfl) dX7_count_144 ?_
        exact J_ireturn rfl dX7_count_147 K
      replace K := K.2 c
      have cc22 := c
      clear c
      by_cases c : x1 = 6
      · replace K := K.1 c
        refine J_tsIn (tgt := 148) 6 c (by decide) (by decide) rfl dX7_count_23 (by decide) ?_
        refine J_aload_n rfl dX7_count_148 ?_
        refine J_getS (r := 41) fl_RX7_57 rfl (Or.inl rfl) rfl dX7_count_149 ?_
        refine J_getI fl_RX7_135 rfl (Or.inl rfl) dX7_count_152 ?_
        exact J_ireturn rfl dX7_count_155 K
      replace K := K.2 c
      have cc23 := c
      clear c
      by_cases c : x1 = 7
      · replace K := K.1 c
        refine J_tsIn (tgt := 156) 7 c (by decide) (by decide) rfl dX7_count_23 (by decide) ?_
        refine J_aload_n rfl dX7_count_156 ?_
        refine J_getS (r := 29) fl_RX7_36 rfl (Or.inl rfl) rfl dX7_count_157 ?_
        refine J_getI fl_RX7_181 rfl (Or.inl rfl) dX7_count_160 ?_
        exact J_ireturn rfl dX7_count_163 K
      replace K := K.2 c
      have cc24 := c
      clear c
      by_cases c : x1 = 8
      · replace K := K.1 c
        refine J_tsIn (tgt := 188) 8 c (by decide) (by decide) rfl dX7_count_23 (by decide) ?_
        refine J_iconst (by decide) dX7_count_188 ?_
        exact J_ireturn rfl dX7_count_189 K
      replace K := K.2 c
      have cc25 := c
      clear c
      by_cases c : x1 = 9
      · replace K := K.1 c
        refine J_tsIn (tgt := 188) 9 c (by decide) (by decide) rfl dX7_count_23 (by decide) ?_
        refine J_iconst (by decide) dX7_count_188 ?_
        exact J_ireturn rfl dX7_count_189 K
      replace K := K.2 c
      have cc26 := c
      clear c
      by_cases c : x1 = 10
      · replace K := K.1 c
        refine J_tsIn (tgt := 188) 10 c (by decide) (by decide) rfl dX7_count_23 (by decide) ?_
        refine J_iconst (by decide) dX7_count_188 ?_
        exact J_ireturn rfl dX7_count_189 K
      replace K := K.2 c
      have cc27 := c
      clear c
      by_cases c : x1 = 11
      · replace K := K.1 c
        refine J_tsIn (tgt := 188) 11 c (by decide) (by decide) rfl dX7_count_23 (by decide) ?_
        refine J_iconst (by decide) dX7_count_188 ?_
        exact J_ireturn rfl dX7_count_189 K
      replace K := K.2 c
      have cc28 := c
      clear c
      by_cases c : x1 = 12
      · replace K := K.1 c
        refine J_tsIn (tgt := 188) 12 c (by decide) (by decide) rfl dX7_count_23 (by decide) ?_
        refine J_iconst (by decide) dX7_count_188 ?_
        exact J_ireturn rfl dX7_count_189 K
      replace K := K.2 c
      have cc29 := c
      clear c
      by_cases c : x1 = 13
      · replace K := K.1 c
        refine J_tsIn (tgt := 164) 13 c (by decide) (by decide) rfl dX7_count_23 (by decide) ?_
        refine J_aload_n rfl dX7_count_164 ?_
        refine J_getS (r := 1) fl_RX7_10 rfl (Or.inl rfl) rfl dX7_count_165 ?_
        refine J_getI fl_RX7_233 rfl (Or.inl rfl) dX7_count_168 ?_
        exact J_ireturn rfl dX7_count_171 K
      replace K := K.2 c
      have cc30 := c
      clear c
      by_cases c : x1 = 14
      · replace K := K.1 c
        refine J_tsIn (tgt := 172) 14 c (by decide) (by decide) rfl dX7_count_23 (by decide) ?_
        refine J_aload_n rfl dX7_count_172 ?_
        refine J_getS (r := 1) fl_RX7_10 rfl (Or.inl rfl) rfl dX7_count_173 ?_
        refine J_getI fl_RX7_175 rfl (Or.inl rfl) dX7_count_176 ?_
        exact J_ireturn rfl dX7_count_179 K
      replace K := K.2 c
      have cc31 := c
      clear c
      by_cases c : x1 = 15
      · replace K := K.1 c
        refine J_tsIn (tgt := 180) 15 c (by decide) (by decide) rfl dX7_count_23 (by decide) ?_
        refine J_aload_n rfl dX7_count_180 ?_
        refine J_getS (r := 1) fl_RX7_10 rfl (Or.inl rfl) rfl dX7_count_181 ?_
        refine J_getI fl_RX7_178 rfl (Or.inl rfl) dX7_count_184 ?_
        exact J_ireturn rfl dX7_count_187 K
      replace K := K.2 c
      have cc32 := c
      clear c
      refine J_tsOut (tgt := 188) (by omega) dX7_count_23 (by decide) ?_
      refine J_iconst (by decide) dX7_count_188 ?_
      exact J_ireturn rfl dX7_count_189 K
    · replace K := K.2 c
      refine J_aload_n rfl dX7_count_12 ?_
      refine J_getS (r := 14) fl_RX7_84 rfl (Or.inl rfl) rfl dX7_count_13 ?_
      refine J_iload_n rfl dX7_count_16 ?_
      refine J_bipush (by decide) (by decide) dX7_count_17 ?_
      refine J_isub K.1 dX7_count_19 ?_
      replace K := K.2
      refine J_iaload (Or.inl rfl) K.1 dX7_count_20 ?_
      replace K := K.2
      exact J_ireturn rfl dX7_count_21 K
set_option maxRecDepth 20000 in
set_option maxHeartbeats 2000000 in
theorem w_X8_count {d b : Nat} {Q : Option AV → AH → Prop} {h : AH} {x1 : Int}  (K : R32 x1 → ∀ h1, h1 = si h 0 0 0 → (x1 = 0 → Q (some (vI (gi h 2 0))) h1) ∧ (¬(x1 = 0) → (x1 = 1 → Q (some (vI (gi h 2 1))) h1) ∧ (¬(x1 = 1) → (x1 = 2 → Q (some (vI (gi h 2 2))) h1) ∧ (¬(x1 = 2) → (x1 = 3 → (InvR (gi h1 2)) ∧ Q (some (vI (sumZ (fun i => b2i (dOf (gi h1 2) i = -1)) (gi h1 2 0).toNat 0))) h1) ∧ (¬(x1 = 3) → (x1 = 4 → (InvR (gi h1 2)) ∧ Q (some (vI (sumZ (fun i => gi h1 2 (31 + i)) (gi h1 2 1).toNat 0))) h1) ∧ (¬(x1 = 4) → (x1 = 5 → Q (some (vI (gi h 2 3))) h1) ∧ (¬(x1 = 5) → (x1 = 6 → Q (some (vI (gi h 0 8))) h1) ∧ (¬(x1 = 6) → (x1 = 7 → Q (some (vI (gi h 0 13))) h1) ∧ (¬(x1 = 7) → (x1 = 8 → Q (some (vI (gi h 1 1))) h1) ∧ (¬(x1 = 8) → (x1 = 9 → Q (some (vI (gi h 1 2))) h1) ∧ (¬(x1 = 9) → (x1 = 10 → Q (some (vI (gi h 1 3))) h1) ∧ (¬(x1 = 10) → (x1 = 11 → Q (some (vI (gi h 1 5))) h1) ∧ (¬(x1 = 11) → (x1 = 12 → Q (some (vI (gi h 1 6))) h1) ∧ (¬(x1 = 12) → (x1 = 13 → Q (some (vI (gi h 2 4))) h1) ∧ (¬(x1 = 13) → (14 ≤ x1 ∧ x1 ≤ 15 → R32 (5 + x1) ∧ R32 ((5 + x1) - 14) ∧ (0 ≤ (5 + x1) - 14 ∧ (5 + x1) - 14 < 5540) ∧ Q (some (vI (gi h 2 ((5 + x1) - 14)))) h1) ∧ (¬(14 ≤ x1 ∧ x1 ≤ 15) → Q (some (vI (-1))) h1)))))))))))))))) : WM GM (d + 2) b mX8_count [vR (some 0), vI x1] h Q := by
  refine WM_introE (loc' := [some (vR (some 0)), some (vI x1)]) rfl (by decide) (Nat.le_of_ble_eq_true rfl) ?_
  refine J_rgl (i := 1) rfl (fun r1 => ?_)
  replace K := K r1
  refine J_aload_n rfl dX8_count_0 ?_
  refine J_iconst (by decide) dX8_count_1 ?_
  refine J_putI fl_RX8_161 rfl (Or.inl rfl) dX8_count_2 ?_
  replace K := K _ rfl
  refine J_iload_n rfl dX8_count_5 ?_
  by_cases c : x1 = 0
  · replace K := K.1 c
    refine J_tsIn (tgt := 76) 0 c (by decide) (by decide) rfl dX8_count_6 (by decide) ?_
    refine J_aload_n rfl dX8_count_76 ?_
    refine J_getS (r := 2) fl_RX8_13 rfl (Or.inl rfl) rfl dX8_count_77 ?_
    refine J_iconst (by decide) dX8_count_80 ?_
    refine J_ialoade (Or.inl rfl) (by decide) (gi_no (by decide)) dX8_count_81 ?_
    exact J_ireturn rfl dX8_count_82 K
  replace K := K.2 c
  have cc1 := c
  clear c
  by_cases c : x1 = 1
  · replace K := K.1 c
    refine J_tsIn (tgt := 83) 1 c (by decide) (by decide) rfl dX8_count_6 (by decide) ?_
    refine J_aload_n rfl dX8_count_83 ?_
    refine J_getS (r := 2) fl_RX8_13 rfl (Or.inl rfl) rfl dX8_count_84 ?_
    refine J_iconst (by decide) dX8_count_87 ?_
    refine J_ialoade (Or.inl rfl) (by decide) (gi_no (by decide)) dX8_count_88 ?_
    exact J_ireturn rfl dX8_count_89 K
  replace K := K.2 c
  have cc2 := c
  clear c
  by_cases c : x1 = 2
  · replace K := K.1 c
    refine J_tsIn (tgt := 90) 2 c (by decide) (by decide) rfl dX8_count_6 (by decide) ?_
    refine J_aload_n rfl dX8_count_90 ?_
    refine J_getS (r := 2) fl_RX8_13 rfl (Or.inl rfl) rfl dX8_count_91 ?_
    refine J_iconst (by decide) dX8_count_94 ?_
    refine J_ialoade (Or.inl rfl) (by decide) (gi_no (by decide)) dX8_count_95 ?_
    exact J_ireturn rfl dX8_count_96 K
  replace K := K.2 c
  have cc3 := c
  clear c
  by_cases c : x1 = 3
  · replace K := K.1 c
    refine J_tsIn (tgt := 97) 3 c (by decide) (by decide) rfl dX8_count_6 (by decide) ?_
    refine J_aload_n rfl dX8_count_97 ?_
    refine J_b0 (J_callV (b1 := 0) (ci := 8) (vs := []) (rest := []) (Or.inl rfl) ml_RX8_531 rfl (by decide) rfl rfl (Or.inl rfl) (Nat.le_of_ble_eq_true rfl) rfl dX8_count_98 (c_X8_openHouses  K.1 ?_))
    replace K := K.2
    show J _ _ _ _ _ _ _ [vI _] _
    exact J_ireturn rfl dX8_count_101 K
  replace K := K.2 c
  have cc4 := c
  clear c
  by_cases c : x1 = 4
  · replace K := K.1 c
    refine J_tsIn (tgt := 102) 4 c (by decide) (by decide) rfl dX8_count_6 (by decide) ?_
    refine J_aload_n rfl dX8_count_102 ?_
    refine J_b0 (J_callV (b1 := 0) (ci := 8) (vs := []) (rest := []) (Or.inl rfl) ml_RX8_562 rfl (by decide) rfl rfl (Or.inl rfl) (Nat.le_of_ble_eq_true rfl) rfl dX8_count_103 (c_X8_lostDoors  K.1 ?_))
    replace K := K.2
    show J _ _ _ _ _ _ _ [vI _] _
    exact J_ireturn rfl dX8_count_106 K
  replace K := K.2 c
  have cc5 := c
  clear c
  by_cases c : x1 = 5
  · replace K := K.1 c
    refine J_tsIn (tgt := 107) 5 c (by decide) (by decide) rfl dX8_count_6 (by decide) ?_
    refine J_aload_n rfl dX8_count_107 ?_
    refine J_getS (r := 2) fl_RX8_13 rfl (Or.inl rfl) rfl dX8_count_108 ?_
    refine J_iconst (by decide) dX8_count_111 ?_
    refine J_ialoade (Or.inl rfl) (by decide) (gi_no (by decide)) dX8_count_112 ?_
    exact J_ireturn rfl dX8_count_113 K
  replace K := K.2 c
  have cc6 := c
  clear c
  by_cases c : x1 = 6
  · replace K := K.1 c
    refine J_tsIn (tgt := 114) 6 c (by decide) (by decide) rfl dX8_count_6 (by decide) ?_
    refine J_aload_n rfl dX8_count_114 ?_
    refine J_getIe fl_RX8_167 rfl (Or.inl rfl) (gi_nk (by decide)) dX8_count_115 ?_
    exact J_ireturn rfl dX8_count_118 K
  replace K := K.2 c
  have cc7 := c
  clear c
  by_cases c : x1 = 7
  · replace K := K.1 c
    refine J_tsIn (tgt := 119) 7 c (by decide) (by decide) rfl dX8_count_6 (by decide) ?_
    refine J_aload_n rfl dX8_count_119 ?_
    refine J_getIe fl_RX8_238 rfl (Or.inl rfl) (gi_nk (by decide)) dX8_count_120 ?_
    exact J_ireturn rfl dX8_count_123 K
  replace K := K.2 c
  have cc8 := c
  clear c
  by_cases c : x1 = 8
  · replace K := K.1 c
    refine J_tsIn (tgt := 124) 8 c (by decide) (by decide) rfl dX8_count_6 (by decide) ?_
    refine J_aload_n rfl dX8_count_124 ?_
    refine J_getS (r := 1) fl_RX8_7 rfl (Or.inl rfl) rfl dX8_count_125 ?_
    refine J_iconst (by decide) dX8_count_128 ?_
    refine J_ialoade (Or.inl rfl) (by decide) (gi_no (by decide)) dX8_count_129 ?_
    exact J_ireturn rfl dX8_count_130 K
  replace K := K.2 c
  have cc9 := c
  clear c
  by_cases c : x1 = 9
  · replace K := K.1 c
    refine J_tsIn (tgt := 131) 9 c (by decide) (by decide) rfl dX8_count_6 (by decide) ?_
    refine J_aload_n rfl dX8_count_131 ?_
    refine J_getS (r := 1) fl_RX8_7 rfl (Or.inl rfl) rfl dX8_count_132 ?_
    refine J_iconst (by decide) dX8_count_135 ?_
    refine J_ialoade (Or.inl rfl) (by decide) (gi_no (by decide)) dX8_count_136 ?_
    exact J_ireturn rfl dX8_count_137 K
  replace K := K.2 c
  have cc10 := c
  clear c
  by_cases c : x1 = 10
  · replace K := K.1 c
    refine J_tsIn (tgt := 138) 10 c (by decide) (by decide) rfl dX8_count_6 (by decide) ?_
    refine J_aload_n rfl dX8_count_138 ?_
    refine J_getS (r := 1) fl_RX8_7 rfl (Or.inl rfl) rfl dX8_count_139 ?_
    refine J_iconst (by decide) dX8_count_142 ?_
    refine J_ialoade (Or.inl rfl) (by decide) (gi_no (by decide)) dX8_count_143 ?_
    exact J_ireturn rfl dX8_count_144 K
  replace K := K.2 c
  have cc11 := c
  clear c
  by_cases c : x1 = 11
  · replace K := K.1 c
    refine J_tsIn (tgt := 145) 11 c (by decide) (by decide) rfl dX8_count_6 (by decide) ?_
    refine J_aload_n rfl dX8_count_145 ?_
    refine J_getS (r := 1) fl_RX8_7 rfl (Or.inl rfl) rfl dX8_count_146 ?_
    refine J_iconst (by decide) dX8_count_149 ?_
    refine J_ialoade (Or.inl rfl) (by decide) (gi_no (by decide)) dX8_count_150 ?_
    exact J_ireturn rfl dX8_count_151 K
  replace K := K.2 c
  have cc12 := c
  clear c
  by_cases c : x1 = 12
  · replace K := K.1 c
    refine J_tsIn (tgt := 152) 12 c (by decide) (by decide) rfl dX8_count_6 (by decide) ?_
    refine J_aload_n rfl dX8_count_152 ?_
    refine J_getS (r := 1) fl_RX8_7 rfl (Or.inl rfl) rfl dX8_count_153 ?_
    refine J_bipush (by decide) (by decide) dX8_count_156 ?_
    refine J_ialoade (Or.inl rfl) (by decide) (gi_no (by decide)) dX8_count_158 ?_
    exact J_ireturn rfl dX8_count_159 K
  replace K := K.2 c
  have cc13 := c
  clear c
  by_cases c : x1 = 13
  · replace K := K.1 c
    refine J_tsIn (tgt := 160) 13 c (by decide) (by decide) rfl dX8_count_6 (by decide) ?_
    refine J_aload_n rfl dX8_count_160 ?_
    refine J_getS (r := 2) fl_RX8_13 rfl (Or.inl rfl) rfl dX8_count_161 ?_
    refine J_iconst (by decide) dX8_count_164 ?_
    refine J_ialoade (Or.inl rfl) (by decide) (gi_no (by decide)) dX8_count_165 ?_
    exact J_ireturn rfl dX8_count_166 K
  replace K := K.2 c
  have cc14 := c
  clear c
  refine J_tsOut (tgt := 167) (by omega) dX8_count_6 (by decide) ?_
  refine J_iload_n rfl dX8_count_167 ?_
  refine J_i2l dX8_count_168 ?_
  refine J_ldc2 (n := 14) (by decide) (by decide) kc_RX8_565 dX8_count_169 ?_
  refine J_ldc2 (n := 15) (by decide) (by decide) kc_RX8_567 dX8_count_172 ?_
  refine J_b0 (J_callS (b1 := 0) (vs := [vL x1, vL 14, vL 15]) (rest := []) (Or.inl rfl) ml_RX8_181 rfl (by decide) (Nat.le_of_ble_eq_true rfl) rfl dX8_count_175 (c_X8_in   ?_))
  show J _ _ _ _ _ _ _ [vI (b2i (14 ≤ x1 ∧ x1 ≤ 15))] _
  refine J_if_eq (tgt := 195) dX8_count_178 (by decide) (fun c => ?_) (fun c => ?_)
  · replace K := K.2 (b2i_0.mp c)
    refine J_iconst (by decide) dX8_count_195 ?_
    exact J_ireturn rfl dX8_count_196 K
  · replace K := K.1 (b2i_n0.mp c)
    refine J_aload_n rfl dX8_count_181 ?_
    refine J_getS (r := 2) fl_RX8_13 rfl (Or.inl rfl) rfl dX8_count_182 ?_
    refine J_iconst (by decide) dX8_count_185 ?_
    refine J_iload_n rfl dX8_count_186 ?_
    refine J_iadd K.1 dX8_count_187 ?_
    replace K := K.2
    refine J_bipush (by decide) (by decide) dX8_count_188 ?_
    refine J_isub K.1 dX8_count_190 ?_
    replace K := K.2
    refine J_ialoade (Or.inl rfl) K.1 (gi_no (by decide)) dX8_count_191 ?_
    replace K := K.2
    refine J_goto (tgt := 196) dX8_count_192 (by decide) ?_
    exact J_ireturn rfl dX8_count_196 K
set_option maxRecDepth 20000 in
set_option maxHeartbeats 2000000 in
theorem w_X7_door {d b : Nat} {Q : Option AV → AH → Prop} {h : AH} {x1 : Int} {x2 : Int} {x3 : Int} {x4 : Int}  (K : R32 x1 → R32 x2 → R32 x3 → R32 x4 → (x1 < 1 → (∀ i : Int, 0 ≤ i → i < 5 → 0 ≤ gi h 14 i ∧ gi h 14 i ≤ 1000000) ∧ ∀ h1, h1 = xRef h (-1) → Q (some (vI (-1))) h1) ∧ (¬(x1 < 1) → (9 < x1 → (∀ i : Int, 0 ≤ i → i < 5 → 0 ≤ gi h 14 i ∧ gi h 14 i ≤ 1000000) ∧ ∀ h2, h2 = xRef h (-1) → Q (some (vI (-1))) h2) ∧ (¬(9 < x1) → (x2 < 0 → (∀ i : Int, 0 ≤ i → i < 5 → 0 ≤ gi h 14 i ∧ gi h 14 i ≤ 1000000) ∧ ∀ h3, h3 = xRef h (-1) → Q (some (vI (-1))) h3) ∧ (¬(x2 < 0) → (3 < x2 → (∀ i : Int, 0 ≤ i → i < 5 → 0 ≤ gi h 14 i ∧ gi h 14 i ≤ 1000000) ∧ ∀ h4, h4 = xRef h (-1) → Q (some (vI (-1))) h4) ∧ (¬(3 < x2) → ((0 : Int) ≤ x4 ∧ (x4 : Int) < 64 → ((0 : Int) ≤ x3 ∧ x3 < gi h 1 0 → (0 ≤ gi h 1 2 ∧ gi h 1 2 ≤ 8) ∧ (dIn (gi h 7) x3 (gi h 1 2).toNat 0 = (-1) → (gi h 1 2 < 8 → (0 ≤ gi h 1 2 ∧ gi h 1 2 < 8) ∧ ∀ h5, h5 = si h 3 (gi h 1 2) x1 → (0 ≤ gi h 1 2 ∧ gi h 1 2 < 8) ∧ ∀ h6, h6 = si h5 4 (gi h 1 2) x2 → (0 ≤ gi h 1 2 ∧ gi h 1 2 < 8) ∧ ∀ h7, h7 = si h6 5 (gi h 1 2) x3 → (0 ≤ gi h 1 2 ∧ gi h 1 2 < 8) ∧ ∀ h8, h8 = si h7 6 (gi h 1 2) x4 → (0 ≤ gi h 1 2 ∧ gi h 1 2 < 8) ∧ ∀ h9, h9 = si h8 7 (gi h 1 2) x3 → (0 ≤ gi h 1 2 ∧ gi h 1 2 < 8) ∧ ∀ h10, h10 = si h9 8 (gi h 1 2) (-1) → (0 ≤ gi h 1 2 ∧ gi h 1 2 < 8) ∧ ∀ h11, h11 = si h10 9 (gi h 1 2) 0 → R32 ((gi h 1 2) + 1) ∧ ∀ h12, h12 = si h11 1 2 ((gi h 1 2) + 1) → ∀ h13, h13 = si h12 41 1 0 → ∀ h14, h14 = si h13 0 14 0 → Q (some (vI (gi h 1 2))) h14) ∧ (¬(gi h 1 2 < 8) → (∀ i : Int, 0 ≤ i → i < 5 → 0 ≤ gi h 14 i ∧ gi h 14 i ≤ 1000000) ∧ ∀ h15, h15 = xRef h (-5) → Q (some (vI (-5))) h15)) ∧ (¬(dIn (gi h 7) x3 (gi h 1 2).toNat 0 = (-1)) → (∀ i : Int, 0 ≤ i → i < 5 → 0 ≤ gi h 14 i ∧ gi h 14 i ≤ 1000000) ∧ ∀ h16, h16 = xRef h (-3) → Q (some (vI (-3))) h16)) ∧ (¬((0 : Int) ≤ x3 ∧ x3 < gi h 1 0) → (∀ i : Int, 0 ≤ i → i < 5 → 0 ≤ gi h 14 i ∧ gi h 14 i ≤ 1000000) ∧ ∀ h17, h17 = xRef h (-2) → Q (some (vI (-2))) h17)) ∧ (¬((0 : Int) ≤ x4 ∧ (x4 : Int) < 64) → (∀ i : Int, 0 ≤ i → i < 5 → 0 ≤ gi h 14 i ∧ gi h 14 i ≤ 1000000) ∧ ∀ h18, h18 = xRef h (-1) → Q (some (vI (-1))) h18)))))) : WM GX (d + 1) b mX7_door [vR (some 0), vI x1, vI x2, vI x3, vI x4] h Q := by
  refine WM_introE (loc' := [some (vR (some 0)), some (vI x1), some (vI x2), some (vI x3), some (vI x4), none]) rfl (by decide) (Nat.le_of_ble_eq_true rfl) ?_
  refine J_rgl (i := 1) rfl (fun r1 => ?_)
  replace K := K r1
  refine J_rgl (i := 2) rfl (fun r2 => ?_)
  replace K := K r2
  refine J_rgl (i := 3) rfl (fun r3 => ?_)
  replace K := K r3
  refine J_rgl (i := 4) rfl (fun r4 => ?_)
  replace K := K r4
  refine J_iload_n rfl dX7_door_0 ?_
  refine J_iconst (by decide) dX7_door_1 ?_
  refine J_icmp_lt (tgt := 28) dX7_door_2 (by decide) (fun c => ?_) (fun c => ?_)
  · replace K := K.1 c
    refine J_aload_n rfl dX7_door_28 ?_
    refine J_iconst (by decide) dX7_door_29 ?_
    refine J_b0 (J_callV (b1 := 0) (ci := 7) (vs := [vI (-1)]) (rest := []) (Or.inl rfl) ml_RX7_88 rfl (by decide) rfl rfl (Or.inl rfl) (Nat.le_of_ble_eq_true rfl) rfl dX7_door_30 (c_X7_refuse  K.1 ?_))
    replace K := K.2
    replace K := K _ rfl
    show J _ _ _ _ _ _ _ [vI (-1)] _
    exact J_ireturn rfl dX7_door_33 K
  · replace K := K.2 c
    refine J_iload_n rfl dX7_door_5 ?_
    refine J_bipush (by decide) (by decide) dX7_door_6 ?_
    refine J_icmp_gt (tgt := 28) dX7_door_8 (by decide) (fun c => ?_) (fun c => ?_)
    · replace K := K.1 c
      refine J_aload_n rfl dX7_door_28 ?_
      refine J_iconst (by decide) dX7_door_29 ?_
      refine J_b0 (J_callV (b1 := 0) (ci := 7) (vs := [vI (-1)]) (rest := []) (Or.inl rfl) ml_RX7_88 rfl (by decide) rfl rfl (Or.inl rfl) (Nat.le_of_ble_eq_true rfl) rfl dX7_door_30 (c_X7_refuse  K.1 ?_))
      replace K := K.2
      replace K := K _ rfl
      show J _ _ _ _ _ _ _ [vI (-1)] _
      exact J_ireturn rfl dX7_door_33 K
    · replace K := K.2 c
      refine J_iload_n rfl dX7_door_11 ?_
      refine J_if_lt (tgt := 28) dX7_door_12 (by decide) (fun c => ?_) (fun c => ?_)
      · replace K := K.1 c
        refine J_aload_n rfl dX7_door_28 ?_
        refine J_iconst (by decide) dX7_door_29 ?_
        refine J_b0 (J_callV (b1 := 0) (ci := 7) (vs := [vI (-1)]) (rest := []) (Or.inl rfl) ml_RX7_88 rfl (by decide) rfl rfl (Or.inl rfl) (Nat.le_of_ble_eq_true rfl) rfl dX7_door_30 (c_X7_refuse  K.1 ?_))
        replace K := K.2
        replace K := K _ rfl
        show J _ _ _ _ _ _ _ [vI (-1)] _
        exact J_ireturn rfl dX7_door_33 K
      · replace K := K.2 c
        refine J_iload_n rfl dX7_door_15 ?_
        refine J_iconst (by decide) dX7_door_16 ?_
        refine J_icmp_gt (tgt := 28) dX7_door_17 (by decide) (fun c => ?_) (fun c => ?_)
        · replace K := K.1 c
          refine J_aload_n rfl dX7_door_28 ?_
          refine J_iconst (by decide) dX7_door_29 ?_
          refine J_b0 (J_callV (b1 := 0) (ci := 7) (vs := [vI (-1)]) (rest := []) (Or.inl rfl) ml_RX7_88 rfl (by decide) rfl rfl (Or.inl rfl) (Nat.le_of_ble_eq_true rfl) rfl dX7_door_30 (c_X7_refuse  K.1 ?_))
          replace K := K.2
          replace K := K _ rfl
          show J _ _ _ _ _ _ _ [vI (-1)] _
          exact J_ireturn rfl dX7_door_33 K
        · replace K := K.2 c
          refine J_iload rfl dX7_door_20 ?_
          refine J_b0 (J_callS (b1 := 0) (vs := [vI x4]) (rest := []) (Or.inl rfl) ml_RX7_101 rfl (by decide) (Nat.le_of_ble_eq_true rfl) rfl dX7_door_22 (c_X7_isKnocks   ?_))
          show J _ _ _ _ _ _ _ [vI (b2i ((0 : Int) ≤ x4 ∧ (x4 : Int) < 64))] _
          refine J_if_ne (tgt := 34) dX7_door_25 (by decide) (fun c => ?_) (fun c => ?_)
          · replace K := K.1 (b2i_n0.mp c)
            refine J_aload_n rfl dX7_door_34 ?_
            refine J_getS (r := 1) fl_RX7_10 rfl (Or.inl rfl) rfl dX7_door_35 ?_
            refine J_iload_n rfl dX7_door_38 ?_
            refine J_b0 (J_callV (b1 := 0) (ci := 0) (vs := [vI x3]) (rest := []) (Or.inr rfl) ml_RX7_105 rfl (by decide) rfl rfl (Or.inl rfl) (Nat.le_of_ble_eq_true rfl) rfl dX7_door_39 (c_X0_isHouse (by decide)  ?_))
            show J _ _ _ _ _ _ _ [vI (b2i ((0 : Int) ≤ x3 ∧ x3 < gi h 1 0))] _
            refine J_if_ne (tgt := 52) dX7_door_42 (by decide) (fun c => ?_) (fun c => ?_)
            · replace K := K.1 (b2i_n0.mp c)
              refine J_aload_n rfl dX7_door_52 ?_
              refine J_getS (r := 1) fl_RX7_10 rfl (Or.inl rfl) rfl dX7_door_53 ?_
              refine J_iload_n rfl dX7_door_56 ?_
              refine J_b0 (J_callV (b1 := 0) (ci := 0) (vs := [vI x3]) (rest := []) (Or.inr rfl) ml_RX7_108 rfl (by decide) rfl rfl (Or.inl rfl) (Nat.le_of_ble_eq_true rfl) rfl dX7_door_57 (c_X0_doorIn (by decide) K.1 ?_))
              replace K := K.2
              show J _ _ _ _ _ _ _ [vI (dIn (gi h 7) x3 (gi h 1 2).toNat 0)] _
              refine J_iconst (by decide) dX7_door_60 ?_
              refine J_icmp_eq (tgt := 71) dX7_door_61 (by decide) (fun c => ?_) (fun c => ?_)
              · replace K := K.1 c
                refine J_aload_n rfl dX7_door_71 ?_
                refine J_getS (r := 1) fl_RX7_10 rfl (Or.inl rfl) rfl dX7_door_72 ?_
                refine J_getI fl_RX7_111 rfl (Or.inl rfl) dX7_door_75 ?_
                refine J_bipush (by decide) (by decide) dX7_door_78 ?_
                refine J_icmp_lt (tgt := 90) dX7_door_80 (by decide) (fun c => ?_) (fun c => ?_)
                · replace K := K.1 c
                  refine J_aload_n rfl dX7_door_90 ?_
                  refine J_getS (r := 1) fl_RX7_10 rfl (Or.inl rfl) rfl dX7_door_91 ?_
                  refine J_getI fl_RX7_111 rfl (Or.inl rfl) dX7_door_94 ?_
                  refine J_istore (loc' := [some (vR (some 0)), some (vI x1), some (vI x2), some (vI x3), some (vI x4), some (vI (gi h 1 2))]) (by decide) rfl dX7_door_97 ?_
                  refine J_aload_n rfl dX7_door_99 ?_
                  refine J_getS (r := 1) fl_RX7_10 rfl (Or.inl rfl) rfl dX7_door_100 ?_
                  refine J_getS (r := 3) fl_RX7_114 rfl (Or.inl rfl) rfl dX7_door_103 ?_
                  refine J_iload rfl dX7_door_106 ?_
                  refine J_iload_n rfl dX7_door_108 ?_
                  refine J_iastore (Or.inl rfl) K.1 dX7_door_109 ?_
                  replace K := K.2
                  replace K := K _ rfl
                  refine J_aload_n rfl dX7_door_110 ?_
                  refine J_getS (r := 1) fl_RX7_10 rfl (Or.inl rfl) rfl dX7_door_111 ?_
                  refine J_getS (r := 4) fl_RX7_117 rfl (Or.inl rfl) rfl dX7_door_114 ?_
                  refine J_iload rfl dX7_door_117 ?_
                  refine J_iload_n rfl dX7_door_119 ?_
                  refine J_iastore (Or.inl rfl) K.1 dX7_door_120 ?_
                  replace K := K.2
                  replace K := K _ rfl
                  refine J_aload_n rfl dX7_door_121 ?_
                  refine J_getS (r := 1) fl_RX7_10 rfl (Or.inl rfl) rfl dX7_door_122 ?_
                  refine J_getS (r := 5) fl_RX7_120 rfl (Or.inl rfl) rfl dX7_door_125 ?_
                  refine J_iload rfl dX7_door_128 ?_
                  refine J_iload_n rfl dX7_door_130 ?_
                  refine J_iastore (Or.inl rfl) K.1 dX7_door_131 ?_
                  replace K := K.2
                  replace K := K _ rfl
                  refine J_aload_n rfl dX7_door_132 ?_
                  refine J_getS (r := 1) fl_RX7_10 rfl (Or.inl rfl) rfl dX7_door_133 ?_
                  refine J_getS (r := 6) fl_RX7_123 rfl (Or.inl rfl) rfl dX7_door_136 ?_
                  refine J_iload rfl dX7_door_139 ?_
                  refine J_iload rfl dX7_door_141 ?_
                  refine J_iastore (Or.inl rfl) K.1 dX7_door_143 ?_
                  replace K := K.2
                  replace K := K _ rfl
                  refine J_aload_n rfl dX7_door_144 ?_
                  refine J_getS (r := 1) fl_RX7_10 rfl (Or.inl rfl) rfl dX7_door_145 ?_
                  refine J_getS (r := 7) fl_RX7_126 rfl (Or.inl rfl) rfl dX7_door_148 ?_
                  refine J_iload rfl dX7_door_151 ?_
                  refine J_iload_n rfl dX7_door_153 ?_
                  refine J_iastore (Or.inl rfl) K.1 dX7_door_154 ?_
                  replace K := K.2
                  replace K := K _ rfl
                  refine J_aload_n rfl dX7_door_155 ?_
                  refine J_getS (r := 1) fl_RX7_10 rfl (Or.inl rfl) rfl dX7_door_156 ?_
                  refine J_getS (r := 8) fl_RX7_129 rfl (Or.inl rfl) rfl dX7_door_159 ?_
                  refine J_iload rfl dX7_door_162 ?_
                  refine J_iconst (by decide) dX7_door_164 ?_
                  refine J_iastore (Or.inl rfl) K.1 dX7_door_165 ?_
                  replace K := K.2
                  replace K := K _ rfl
                  refine J_aload_n rfl dX7_door_166 ?_
                  refine J_getS (r := 1) fl_RX7_10 rfl (Or.inl rfl) rfl dX7_door_167 ?_
                  refine J_getS (r := 9) fl_RX7_132 rfl (Or.inl rfl) rfl dX7_door_170 ?_
                  refine J_iload rfl dX7_door_173 ?_
                  refine J_iconst (by decide) dX7_door_175 ?_
                  refine J_iastore (Or.inl rfl) K.1 dX7_door_176 ?_
                  replace K := K.2
                  replace K := K _ rfl
                  refine J_aload_n rfl dX7_door_177 ?_
                  refine J_getS (r := 1) fl_RX7_10 rfl (Or.inl rfl) rfl dX7_door_178 ?_
                  refine J_dup rfl dX7_door_181 ?_
                  refine J_getIe fl_RX7_111 rfl (Or.inl rfl) (Eq.trans (gi_no (by decide)) (Eq.trans (gi_no (by decide)) (Eq.trans (gi_no (by decide)) (Eq.trans (gi_no (by decide)) (Eq.trans (gi_no (by decide)) (Eq.trans (gi_no (by decide)) (gi_no (by decide)))))))) dX7_door_182 ?_
                  refine J_iconst (by decide) dX7_door_185 ?_
                  refine J_iadd K.1 dX7_door_186 ?_
                  replace K := K.2
                  refine J_putI fl_RX7_111 rfl (Or.inl rfl) dX7_door_187 ?_
                  replace K := K _ rfl
                  refine J_aload_n rfl dX7_door_190 ?_
                  refine J_getS (r := 41) fl_RX7_57 rfl (Or.inl rfl) rfl dX7_door_191 ?_
                  refine J_iconst (by decide) dX7_door_194 ?_
                  refine J_putI fl_RX7_135 rfl (Or.inl rfl) dX7_door_195 ?_
                  replace K := K _ rfl
                  refine J_aload_n rfl dX7_door_198 ?_
                  refine J_iload rfl dX7_door_199 ?_
                  refine J_b0 (J_callV (b1 := 0) (ci := 7) (vs := [vI (gi h 1 2)]) (rest := []) (Or.inl rfl) ml_RX7_98 rfl (by decide) rfl rfl (Or.inl rfl) (Nat.le_of_ble_eq_true rfl) rfl dX7_door_201 (c_X7_granted   ?_))
                  replace K := K _ rfl
                  show J _ _ _ _ _ _ _ [vI (gi h 1 2)] _
                  exact J_ireturn rfl dX7_door_204 K
                · replace K := K.2 c
                  refine J_aload_n rfl dX7_door_83 ?_
                  refine J_bipush (by decide) (by decide) dX7_door_84 ?_
                  refine J_b0 (J_callV (b1 := 0) (ci := 7) (vs := [vI (-5)]) (rest := []) (Or.inl rfl) ml_RX7_88 rfl (by decide) rfl rfl (Or.inl rfl) (Nat.le_of_ble_eq_true rfl) rfl dX7_door_86 (c_X7_refuse  K.1 ?_))
                  replace K := K.2
                  replace K := K _ rfl
                  show J _ _ _ _ _ _ _ [vI (-5)] _
                  exact J_ireturn rfl dX7_door_89 K
              · replace K := K.2 c
                refine J_aload_n rfl dX7_door_64 ?_
                refine J_bipush (by decide) (by decide) dX7_door_65 ?_
                refine J_b0 (J_callV (b1 := 0) (ci := 7) (vs := [vI (-3)]) (rest := []) (Or.inl rfl) ml_RX7_88 rfl (by decide) rfl rfl (Or.inl rfl) (Nat.le_of_ble_eq_true rfl) rfl dX7_door_67 (c_X7_refuse  K.1 ?_))
                replace K := K.2
                replace K := K _ rfl
                show J _ _ _ _ _ _ _ [vI (-3)] _
                exact J_ireturn rfl dX7_door_70 K
            · replace K := K.2 (b2i_0.mp c)
              refine J_aload_n rfl dX7_door_45 ?_
              refine J_bipush (by decide) (by decide) dX7_door_46 ?_
              refine J_b0 (J_callV (b1 := 0) (ci := 7) (vs := [vI (-2)]) (rest := []) (Or.inl rfl) ml_RX7_88 rfl (by decide) rfl rfl (Or.inl rfl) (Nat.le_of_ble_eq_true rfl) rfl dX7_door_48 (c_X7_refuse  K.1 ?_))
              replace K := K.2
              replace K := K _ rfl
              show J _ _ _ _ _ _ _ [vI (-2)] _
              exact J_ireturn rfl dX7_door_51 K
          · replace K := K.2 (b2i_0.mp c)
            refine J_aload_n rfl dX7_door_28 ?_
            refine J_iconst (by decide) dX7_door_29 ?_
            refine J_b0 (J_callV (b1 := 0) (ci := 7) (vs := [vI (-1)]) (rest := []) (Or.inl rfl) ml_RX7_88 rfl (by decide) rfl rfl (Or.inl rfl) (Nat.le_of_ble_eq_true rfl) rfl dX7_door_30 (c_X7_refuse  K.1 ?_))
            replace K := K.2
            replace K := K _ rfl
            show J _ _ _ _ _ _ _ [vI (-1)] _
            exact J_ireturn rfl dX7_door_33 K
set_option maxRecDepth 20000 in
set_option maxHeartbeats 2000000 in
theorem w_X8_door {d b : Nat} {Q : Option AV → AH → Prop} {h : AH} {x1 : Int} {x2 : Int} {x3 : Int} {x4 : Int}  (K : R32 x1 → R32 x2 → R32 x3 → R32 x4 → ∀ h1, h1 = si h 0 0 0 → (1 ≤ x1 ∧ x1 ≤ 9 → (0 ≤ x2 ∧ x2 ≤ 3 → (0 ≤ x4 ∧ x4 ≤ 63 → (0 ≤ gi h1 2 0 ∧ gi h1 2 0 ≤ 8) ∧ ((0 : Int) ≤ x3 ∧ x3 < gi h1 2 0 → (InvR (gi h1 2)) ∧ ((0 : Int) ≤ x3) ∧ (dOf (gi h1 2) x3 = (-1) → (gi h 2 1 = 8 → (-7 < (-5)) ∧ (∀ i : Int, 0 ≤ i → i < 7 → 0 ≤ gi h1 1 i ∧ gi h1 1 i ≤ 1000000) ∧ ∀ h14, h14 = mTell h1 (-5) → Q (some (vI (-5))) h14) ∧ (¬(gi h 2 1 = 8) → R32 (72 + (gi h 2 1)) ∧ (0 ≤ 72 + (gi h 2 1) ∧ 72 + (gi h 2 1) < 5540) ∧ ∀ h4, h4 = si h1 2 (72 + (gi h 2 1)) x1 → R32 (80 + (gi h 2 1)) ∧ (0 ≤ 80 + (gi h 2 1) ∧ 80 + (gi h 2 1) < 5540) ∧ ∀ h5, h5 = si h4 2 (80 + (gi h 2 1)) x2 → R32 (88 + (gi h 2 1)) ∧ (0 ≤ 88 + (gi h 2 1) ∧ 88 + (gi h 2 1) < 5540) ∧ ∀ h6, h6 = si h5 2 (88 + (gi h 2 1)) x3 → R32 (96 + (gi h 2 1)) ∧ (0 ≤ 96 + (gi h 2 1) ∧ 96 + (gi h 2 1) < 5540) ∧ ∀ h7, h7 = si h6 2 (96 + (gi h 2 1)) x4 → R32 (7 + (gi h 2 1)) ∧ (0 ≤ 7 + (gi h 2 1) ∧ 7 + (gi h 2 1) < 5540) ∧ ∀ h8, h8 = si h7 2 (7 + (gi h 2 1)) x3 → R32 (15 + (gi h 2 1)) ∧ (0 ≤ 15 + (gi h 2 1) ∧ 15 + (gi h 2 1) < 5540) ∧ ∀ h9, h9 = si h8 2 (15 + (gi h 2 1)) (-1) → R32 (23 + (gi h 2 1)) ∧ (0 ≤ 23 + (gi h 2 1) ∧ 23 + (gi h 2 1) < 5540) ∧ ∀ h10, h10 = si h9 2 (23 + (gi h 2 1)) 0 → R32 (31 + (gi h 2 1)) ∧ (0 ≤ 31 + (gi h 2 1) ∧ 31 + (gi h 2 1) < 5540) ∧ ∀ h11, h11 = si h10 2 (31 + (gi h 2 1)) 0 → R32 ((gi h11 2 1) + 1) ∧ ∀ h12, h12 = si h11 2 1 ((gi h11 2 1) + 1) → (-7 < (gi h 2 1)) ∧ (∀ i : Int, 0 ≤ i → i < 7 → 0 ≤ gi h12 1 i ∧ gi h12 1 i ≤ 1000000) ∧ ∀ h13, h13 = mTell (si h12 0 8 (if (gi h 2 1) < 0 then gi h12 0 8 else 0)) (gi h 2 1) → Q (some (vI (gi h 2 1))) h13)) ∧ (¬(dOf (gi h1 2) x3 = (-1)) → (-7 < (-3)) ∧ (∀ i : Int, 0 ≤ i → i < 7 → 0 ≤ gi h1 1 i ∧ gi h1 1 i ≤ 1000000) ∧ ∀ h15, h15 = mTell h1 (-3) → Q (some (vI (-3))) h15)) ∧ (¬((0 : Int) ≤ x3 ∧ x3 < gi h1 2 0) → (-7 < (-2)) ∧ (∀ i : Int, 0 ≤ i → i < 7 → 0 ≤ gi h1 1 i ∧ gi h1 1 i ≤ 1000000) ∧ ∀ h16, h16 = mTell h1 (-2) → Q (some (vI (-2))) h16)) ∧ (¬(0 ≤ x4 ∧ x4 ≤ 63) → (-7 < (-1)) ∧ (∀ i : Int, 0 ≤ i → i < 7 → 0 ≤ gi h1 1 i ∧ gi h1 1 i ≤ 1000000) ∧ ∀ h17, h17 = mTell h1 (-1) → Q (some (vI (-1))) h17)) ∧ (¬(0 ≤ x2 ∧ x2 ≤ 3) → (-7 < (-1)) ∧ (∀ i : Int, 0 ≤ i → i < 7 → 0 ≤ gi h1 1 i ∧ gi h1 1 i ≤ 1000000) ∧ ∀ h3, h3 = mTell h1 (-1) → Q (some (vI (-1))) h3)) ∧ (¬(1 ≤ x1 ∧ x1 ≤ 9) → (-7 < (-1)) ∧ (∀ i : Int, 0 ≤ i → i < 7 → 0 ≤ gi h1 1 i ∧ gi h1 1 i ≤ 1000000) ∧ ∀ h2, h2 = mTell h1 (-1) → Q (some (vI (-1))) h2)) : WM GM (d + 2) b mX8_door [vR (some 0), vI x1, vI x2, vI x3, vI x4] h Q := by
  refine WM_introE (loc' := [some (vR (some 0)), some (vI x1), some (vI x2), some (vI x3), some (vI x4), none]) rfl (by decide) (Nat.le_of_ble_eq_true rfl) ?_
  refine J_rgl (i := 1) rfl (fun r1 => ?_)
  replace K := K r1
  refine J_rgl (i := 2) rfl (fun r2 => ?_)
  replace K := K r2
  refine J_rgl (i := 3) rfl (fun r3 => ?_)
  replace K := K r3
  refine J_rgl (i := 4) rfl (fun r4 => ?_)
  replace K := K r4
  refine J_aload_n rfl dX8_door_0 ?_
  refine J_iconst (by decide) dX8_door_1 ?_
  refine J_putI fl_RX8_161 rfl (Or.inl rfl) dX8_door_2 ?_
  replace K := K _ rfl
  refine J_iload_n rfl dX8_door_5 ?_
  refine J_i2l dX8_door_6 ?_
  refine J_lconst (x := 1) (by decide) (by decide) dX8_door_7 ?_
  refine J_ldc2 (n := 9) (by decide) (by decide) kc_RX8_190 dX8_door_8 ?_
  refine J_b0 (J_callS (b1 := 0) (vs := [vL x1, vL 1, vL 9]) (rest := []) (Or.inl rfl) ml_RX8_181 rfl (by decide) (Nat.le_of_ble_eq_true rfl) rfl dX8_door_11 (c_X8_in   ?_))
  show J _ _ _ _ _ _ _ [vI (b2i (1 ≤ x1 ∧ x1 ≤ 9))] _
  refine J_if_eq (tgt := 42) dX8_door_14 (by decide) (fun c => ?_) (fun c => ?_)
  · replace K := K.2 (b2i_0.mp c)
    refine J_aload_n rfl dX8_door_42 ?_
    refine J_iconst (by decide) dX8_door_43 ?_
    refine J_b0 (J_callV (b1 := 0) (ci := 8) (vs := [vI (-1)]) (rest := []) (Or.inl rfl) ml_RX8_170 rfl (by decide) rfl rfl (Or.inl rfl) (Nat.le_of_ble_eq_true rfl) rfl dX8_door_44 (c_X8_tell  K.1 K.2.1 ?_))
    replace K := K.2.2
    replace K := K _ rfl
    show J _ _ _ _ _ _ _ [vI (-1)] _
    exact J_ireturn rfl dX8_door_47 K
  · replace K := K.1 (b2i_n0.mp c)
    refine J_iload_n rfl dX8_door_17 ?_
    refine J_i2l dX8_door_18 ?_
    refine J_lconst (x := 0) (by decide) (by decide) dX8_door_19 ?_
    refine J_ldc2 (n := 3) (by decide) (by decide) kc_RX8_192 dX8_door_20 ?_
    refine J_b0 (J_callS (b1 := 0) (vs := [vL x2, vL 0, vL 3]) (rest := []) (Or.inl rfl) ml_RX8_181 rfl (by decide) (Nat.le_of_ble_eq_true rfl) rfl dX8_door_23 (c_X8_in   ?_))
    show J _ _ _ _ _ _ _ [vI (b2i (0 ≤ x2 ∧ x2 ≤ 3))] _
    refine J_if_eq (tgt := 42) dX8_door_26 (by decide) (fun c => ?_) (fun c => ?_)
    · replace K := K.2 (b2i_0.mp c)
      refine J_aload_n rfl dX8_door_42 ?_
      refine J_iconst (by decide) dX8_door_43 ?_
      refine J_b0 (J_callV (b1 := 0) (ci := 8) (vs := [vI (-1)]) (rest := []) (Or.inl rfl) ml_RX8_170 rfl (by decide) rfl rfl (Or.inl rfl) (Nat.le_of_ble_eq_true rfl) rfl dX8_door_44 (c_X8_tell  K.1 K.2.1 ?_))
      replace K := K.2.2
      replace K := K _ rfl
      show J _ _ _ _ _ _ _ [vI (-1)] _
      exact J_ireturn rfl dX8_door_47 K
    · replace K := K.1 (b2i_n0.mp c)
      refine J_iload rfl dX8_door_29 ?_
      refine J_i2l dX8_door_31 ?_
      refine J_lconst (x := 0) (by decide) (by decide) dX8_door_32 ?_
      refine J_ldc2 (n := 63) (by decide) (by decide) kc_RX8_194 dX8_door_33 ?_
      refine J_b0 (J_callS (b1 := 0) (vs := [vL x4, vL 0, vL 63]) (rest := []) (Or.inl rfl) ml_RX8_181 rfl (by decide) (Nat.le_of_ble_eq_true rfl) rfl dX8_door_36 (c_X8_in   ?_))
      show J _ _ _ _ _ _ _ [vI (b2i (0 ≤ x4 ∧ x4 ≤ 63))] _
      refine J_if_ne (tgt := 48) dX8_door_39 (by decide) (fun c => ?_) (fun c => ?_)
      · replace K := K.1 (b2i_n0.mp c)
        refine J_aload_n rfl dX8_door_48 ?_
        refine J_iload_n rfl dX8_door_49 ?_
        refine J_b0 (J_callV (b1 := 0) (ci := 8) (vs := [vI x3]) (rest := []) (Or.inl rfl) ml_RX8_196 rfl (by decide) rfl rfl (Or.inl rfl) (Nat.le_of_ble_eq_true rfl) rfl dX8_door_50 (c_X8_isHouse  K.1 ?_))
        replace K := K.2
        show J _ _ _ _ _ _ _ [vI _] _
        refine J_if_ne (tgt := 63) dX8_door_53 (by decide) (fun c => ?_) (fun c => ?_)
        · replace K := K.1 (b2i_n0.mp c)
          refine J_aload_n rfl dX8_door_63 ?_
          refine J_iload_n rfl dX8_door_64 ?_
          refine J_b0 (J_callV (b1 := 0) (ci := 8) (vs := [vI x3]) (rest := []) (Or.inl rfl) ml_RX8_200 rfl (by decide) rfl rfl (Or.inl rfl) (Nat.le_of_ble_eq_true rfl) rfl dX8_door_65 (c_X8_doorOf  K.1 K.2.1 ?_))
          replace K := K.2.2
          show J _ _ _ _ _ _ _ [vI _] _
          refine J_iconst (by decide) dX8_door_68 ?_
          refine J_icmp_eq (tgt := 79) dX8_door_69 (by decide) (fun c => ?_) (fun c => ?_)
          · replace K := K.1 c
            refine J_aload_n rfl dX8_door_79 ?_
            refine J_getS (r := 2) fl_RX8_13 rfl (Or.inl rfl) rfl dX8_door_80 ?_
            refine J_iconst (by decide) dX8_door_83 ?_
            refine J_ialoade (Or.inl rfl) (by decide) (gi_no (by decide)) dX8_door_84 ?_
            refine J_istore (loc' := [some (vR (some 0)), some (vI x1), some (vI x2), some (vI x3), some (vI x4), some (vI (gi h 2 1))]) (by decide) rfl dX8_door_85 ?_
            refine J_iload rfl dX8_door_87 ?_
            refine J_bipush (by decide) (by decide) dX8_door_89 ?_
            refine J_icmp_ne (tgt := 101) dX8_door_91 (by decide) (fun c => ?_) (fun c => ?_)
            · replace K := K.2 c
              refine J_aload_n rfl dX8_door_101 ?_
              refine J_getS (r := 2) fl_RX8_13 rfl (Or.inl rfl) rfl dX8_door_102 ?_
              refine J_bipush (by decide) (by decide) dX8_door_105 ?_
              refine J_iload rfl dX8_door_107 ?_
              refine J_iadd K.1 dX8_door_109 ?_
              replace K := K.2
              refine J_iload_n rfl dX8_door_110 ?_
              refine J_iastore (Or.inl rfl) K.1 dX8_door_111 ?_
              replace K := K.2
              replace K := K _ rfl
              refine J_aload_n rfl dX8_door_112 ?_
              refine J_getS (r := 2) fl_RX8_13 rfl (Or.inl rfl) rfl dX8_door_113 ?_
              refine J_bipush (by decide) (by decide) dX8_door_116 ?_
              refine J_iload rfl dX8_door_118 ?_
              refine J_iadd K.1 dX8_door_120 ?_
              replace K := K.2
              refine J_iload_n rfl dX8_door_121 ?_
              refine J_iastore (Or.inl rfl) K.1 dX8_door_122 ?_
              replace K := K.2
              replace K := K _ rfl
              refine J_aload_n rfl dX8_door_123 ?_
              refine J_getS (r := 2) fl_RX8_13 rfl (Or.inl rfl) rfl dX8_door_124 ?_
              refine J_bipush (by decide) (by decide) dX8_door_127 ?_
              refine J_iload rfl dX8_door_129 ?_
              refine J_iadd K.1 dX8_door_131 ?_
              replace K := K.2
              refine J_iload_n rfl dX8_door_132 ?_
              refine J_iastore (Or.inl rfl) K.1 dX8_door_133 ?_
              replace K := K.2
              replace K := K _ rfl
              refine J_aload_n rfl dX8_door_134 ?_
              refine J_getS (r := 2) fl_RX8_13 rfl (Or.inl rfl) rfl dX8_door_135 ?_
              refine J_bipush (by decide) (by decide) dX8_door_138 ?_
              refine J_iload rfl dX8_door_140 ?_
              refine J_iadd K.1 dX8_door_142 ?_
              replace K := K.2
              refine J_iload rfl dX8_door_143 ?_
              refine J_iastore (Or.inl rfl) K.1 dX8_door_145 ?_
              replace K := K.2
              replace K := K _ rfl
              refine J_aload_n rfl dX8_door_146 ?_
              refine J_getS (r := 2) fl_RX8_13 rfl (Or.inl rfl) rfl dX8_door_147 ?_
              refine J_bipush (by decide) (by decide) dX8_door_150 ?_
              refine J_iload rfl dX8_door_152 ?_
              refine J_iadd K.1 dX8_door_154 ?_
              replace K := K.2
              refine J_iload_n rfl dX8_door_155 ?_
              refine J_iastore (Or.inl rfl) K.1 dX8_door_156 ?_
              replace K := K.2
              replace K := K _ rfl
              refine J_aload_n rfl dX8_door_157 ?_
              refine J_getS (r := 2) fl_RX8_13 rfl (Or.inl rfl) rfl dX8_door_158 ?_
              refine J_bipush (by decide) (by decide) dX8_door_161 ?_
              refine J_iload rfl dX8_door_163 ?_
              refine J_iadd K.1 dX8_door_165 ?_
              replace K := K.2
              refine J_iconst (by decide) dX8_door_166 ?_
              refine J_iastore (Or.inl rfl) K.1 dX8_door_167 ?_
              replace K := K.2
              replace K := K _ rfl
              refine J_aload_n rfl dX8_door_168 ?_
              refine J_getS (r := 2) fl_RX8_13 rfl (Or.inl rfl) rfl dX8_door_169 ?_
              refine J_bipush (by decide) (by decide) dX8_door_172 ?_
              refine J_iload rfl dX8_door_174 ?_
              refine J_iadd K.1 dX8_door_176 ?_
              replace K := K.2
              refine J_iconst (by decide) dX8_door_177 ?_
              refine J_iastore (Or.inl rfl) K.1 dX8_door_178 ?_
              replace K := K.2
              replace K := K _ rfl
              refine J_aload_n rfl dX8_door_179 ?_
              refine J_getS (r := 2) fl_RX8_13 rfl (Or.inl rfl) rfl dX8_door_180 ?_
              refine J_bipush (by decide) (by decide) dX8_door_183 ?_
              refine J_iload rfl dX8_door_185 ?_
              refine J_iadd K.1 dX8_door_187 ?_
              replace K := K.2
              refine J_iconst (by decide) dX8_door_188 ?_
              refine J_iastore (Or.inl rfl) K.1 dX8_door_189 ?_
              replace K := K.2
              replace K := K _ rfl
              refine J_aload_n rfl dX8_door_190 ?_
              refine J_getS (r := 2) fl_RX8_13 rfl (Or.inl rfl) rfl dX8_door_191 ?_
              refine J_iconst (by decide) dX8_door_194 ?_
              refine J_dup2 rfl rfl dX8_door_195 ?_
              refine J_iaload (Or.inl rfl) (by decide) dX8_door_196 ?_
              refine J_iconst (by decide) dX8_door_197 ?_
              refine J_iadd K.1 dX8_door_198 ?_
              replace K := K.2
              refine J_iastore (Or.inl rfl) (by decide) dX8_door_199 ?_
              replace K := K _ rfl
              refine J_aload_n rfl dX8_door_200 ?_
              refine J_iload rfl dX8_door_201 ?_
              refine J_b0 (J_callV (b1 := 0) (ci := 8) (vs := [vI (gi h 2 1)]) (rest := []) (Or.inl rfl) ml_RX8_185 rfl (by decide) rfl rfl (Or.inl rfl) (Nat.le_of_ble_eq_true rfl) rfl dX8_door_203 (c_X8_settled  K.1 K.2.1 ?_))
              replace K := K.2.2
              replace K := K _ rfl
              show J _ _ _ _ _ _ _ [vI (gi h 2 1)] _
              exact J_ireturn rfl dX8_door_206 K
            · replace K := K.1 c
              refine J_aload_n rfl dX8_door_94 ?_
              refine J_bipush (by decide) (by decide) dX8_door_95 ?_
              refine J_b0 (J_callV (b1 := 0) (ci := 8) (vs := [vI (-5)]) (rest := []) (Or.inl rfl) ml_RX8_170 rfl (by decide) rfl rfl (Or.inl rfl) (Nat.le_of_ble_eq_true rfl) rfl dX8_door_97 (c_X8_tell  K.1 K.2.1 ?_))
              replace K := K.2.2
              replace K := K _ rfl
              show J _ _ _ _ _ _ _ [vI (-5)] _
              exact J_ireturn rfl dX8_door_100 K
          · replace K := K.2 c
            refine J_aload_n rfl dX8_door_72 ?_
            refine J_bipush (by decide) (by decide) dX8_door_73 ?_
            refine J_b0 (J_callV (b1 := 0) (ci := 8) (vs := [vI (-3)]) (rest := []) (Or.inl rfl) ml_RX8_170 rfl (by decide) rfl rfl (Or.inl rfl) (Nat.le_of_ble_eq_true rfl) rfl dX8_door_75 (c_X8_tell  K.1 K.2.1 ?_))
            replace K := K.2.2
            replace K := K _ rfl
            show J _ _ _ _ _ _ _ [vI (-3)] _
            exact J_ireturn rfl dX8_door_78 K
        · replace K := K.2 (b2i_0.mp c)
          refine J_aload_n rfl dX8_door_56 ?_
          refine J_bipush (by decide) (by decide) dX8_door_57 ?_
          refine J_b0 (J_callV (b1 := 0) (ci := 8) (vs := [vI (-2)]) (rest := []) (Or.inl rfl) ml_RX8_170 rfl (by decide) rfl rfl (Or.inl rfl) (Nat.le_of_ble_eq_true rfl) rfl dX8_door_59 (c_X8_tell  K.1 K.2.1 ?_))
          replace K := K.2.2
          replace K := K _ rfl
          show J _ _ _ _ _ _ _ [vI (-2)] _
          exact J_ireturn rfl dX8_door_62 K
      · replace K := K.2 (b2i_0.mp c)
        refine J_aload_n rfl dX8_door_42 ?_
        refine J_iconst (by decide) dX8_door_43 ?_
        refine J_b0 (J_callV (b1 := 0) (ci := 8) (vs := [vI (-1)]) (rest := []) (Or.inl rfl) ml_RX8_170 rfl (by decide) rfl rfl (Or.inl rfl) (Nat.le_of_ble_eq_true rfl) rfl dX8_door_44 (c_X8_tell  K.1 K.2.1 ?_))
        replace K := K.2.2
        replace K := K _ rfl
        show J _ _ _ _ _ _ _ [vI (-1)] _
        exact J_ireturn rfl dX8_door_47 K
set_option maxRecDepth 20000 in
set_option maxHeartbeats 2000000 in
theorem w_X7_feed {d b : Nat} {Q : Option AV → AH → Prop} {h : AH} {x1 : Int} {x2 : Int} {x3 : Int} {x4 : Int} {x5 : Int}  (K : R32 x1 → R32 x2 → R32 x3 → R32 x4 → R32 x5 → R32 ((gi h 29 1) + 20) ∧ ((gi h 29 1) + 20 ≤ 400 → WM GX d 0 mX4_append [vR (some 29), vI x1] h (fun r h1 => r = none ∧ WM GX d 0 mX4_append [vR (some 29), vI x2] h1 (fun r h2 => r = none ∧ WM GX d 0 mX4_append [vR (some 29), vI x3] h2 (fun r h3 => r = none ∧ WM GX d 0 mX4_append [vR (some 29), vI x4] h3 (fun r h4 => r = none ∧ WM GX d 0 mX4_append [vR (some 29), vI x5] h4 (fun r h5 => r = none ∧ Q (some (vI (gi h5 29 1))) h5)))))) ∧ (¬((gi h 29 1) + 20 ≤ 400) → Q (some (vI (-1))) h)) : WM GX (d + 1) b mX7_feed [vR (some 0), vI x1, vI x2, vI x3, vI x4, vI x5] h Q := by
  refine WM_introE (loc' := [some (vR (some 0)), some (vI x1), some (vI x2), some (vI x3), some (vI x4), some (vI x5)]) rfl (by decide) (Nat.le_of_ble_eq_true rfl) ?_
  refine J_rgl (i := 1) rfl (fun r1 => ?_)
  replace K := K r1
  refine J_rgl (i := 2) rfl (fun r2 => ?_)
  replace K := K r2
  refine J_rgl (i := 3) rfl (fun r3 => ?_)
  replace K := K r3
  refine J_rgl (i := 4) rfl (fun r4 => ?_)
  replace K := K r4
  refine J_rgl (i := 5) rfl (fun r5 => ?_)
  replace K := K r5
  refine J_aload_n rfl dX7_feed_0 ?_
  refine J_getS (r := 29) fl_RX7_36 rfl (Or.inl rfl) rfl dX7_feed_1 ?_
  refine J_getI fl_RX7_181 rfl (Or.inl rfl) dX7_feed_4 ?_
  refine J_bipush (by decide) (by decide) dX7_feed_7 ?_
  refine J_iadd K.1 dX7_feed_9 ?_
  replace K := K.2
  refine J_sipush (by decide) (by decide) dX7_feed_10 ?_
  refine J_icmp_le (tgt := 18) dX7_feed_13 (by decide) (fun c => ?_) (fun c => ?_)
  · replace K := K.1 c
    refine J_aload_n rfl dX7_feed_18 ?_
    refine J_getS (r := 29) fl_RX7_36 rfl (Or.inl rfl) rfl dX7_feed_19 ?_
    refine J_iload_n rfl dX7_feed_22 ?_
    refine J_b0 (J_callV (b1 := 0) (ci := 4) (vs := [vI x1]) (rest := []) (Or.inr rfl) ml_RX7_184 rfl (by decide) rfl rfl (Or.inl rfl) (Nat.le_of_ble_eq_true rfl) rfl dX7_feed_23 (WM_mono K (fun r h1 K => ?_)))
    obtain ⟨rfl, K⟩ := K
    show J _ _ _ _ _ _ _ [] _
    refine J_aload_n rfl dX7_feed_26 ?_
    refine J_getS (r := 29) fl_RX7_36 rfl (Or.inl rfl) rfl dX7_feed_27 ?_
    refine J_iload_n rfl dX7_feed_30 ?_
    refine J_b0 (J_callV (b1 := 0) (ci := 4) (vs := [vI x2]) (rest := []) (Or.inr rfl) ml_RX7_184 rfl (by decide) rfl rfl (Or.inl rfl) (Nat.le_of_ble_eq_true rfl) rfl dX7_feed_31 (WM_mono K (fun r h2 K => ?_)))
    obtain ⟨rfl, K⟩ := K
    show J _ _ _ _ _ _ _ [] _
    refine J_aload_n rfl dX7_feed_34 ?_
    refine J_getS (r := 29) fl_RX7_36 rfl (Or.inl rfl) rfl dX7_feed_35 ?_
    refine J_iload_n rfl dX7_feed_38 ?_
    refine J_b0 (J_callV (b1 := 0) (ci := 4) (vs := [vI x3]) (rest := []) (Or.inr rfl) ml_RX7_184 rfl (by decide) rfl rfl (Or.inl rfl) (Nat.le_of_ble_eq_true rfl) rfl dX7_feed_39 (WM_mono K (fun r h3 K => ?_)))
    obtain ⟨rfl, K⟩ := K
    show J _ _ _ _ _ _ _ [] _
    refine J_aload_n rfl dX7_feed_42 ?_
    refine J_getS (r := 29) fl_RX7_36 rfl (Or.inl rfl) rfl dX7_feed_43 ?_
    refine J_iload rfl dX7_feed_46 ?_
    refine J_b0 (J_callV (b1 := 0) (ci := 4) (vs := [vI x4]) (rest := []) (Or.inr rfl) ml_RX7_184 rfl (by decide) rfl rfl (Or.inl rfl) (Nat.le_of_ble_eq_true rfl) rfl dX7_feed_48 (WM_mono K (fun r h4 K => ?_)))
    obtain ⟨rfl, K⟩ := K
    show J _ _ _ _ _ _ _ [] _
    refine J_aload_n rfl dX7_feed_51 ?_
    refine J_getS (r := 29) fl_RX7_36 rfl (Or.inl rfl) rfl dX7_feed_52 ?_
    refine J_iload rfl dX7_feed_55 ?_
    refine J_b0 (J_callV (b1 := 0) (ci := 4) (vs := [vI x5]) (rest := []) (Or.inr rfl) ml_RX7_184 rfl (by decide) rfl rfl (Or.inl rfl) (Nat.le_of_ble_eq_true rfl) rfl dX7_feed_57 (WM_mono K (fun r h5 K => ?_)))
    obtain ⟨rfl, K⟩ := K
    show J _ _ _ _ _ _ _ [] _
    refine J_aload_n rfl dX7_feed_60 ?_
    refine J_getS (r := 29) fl_RX7_36 rfl (Or.inl rfl) rfl dX7_feed_61 ?_
    refine J_getI fl_RX7_181 rfl (Or.inl rfl) dX7_feed_64 ?_
    exact J_ireturn rfl dX7_feed_67 K
  · replace K := K.2 c
    refine J_iconst (by decide) dX7_feed_16 ?_
    exact J_ireturn rfl dX7_feed_17 K
set_option maxRecDepth 20000 in
set_option maxHeartbeats 2000000 in
theorem w_X8_feed {d b : Nat} {Q : Option AV → AH → Prop} {h : AH} {x1 : Int} {x2 : Int} {x3 : Int} {x4 : Int} {x5 : Int}  (K : R32 x1 → R32 x2 → R32 x3 → R32 x4 → R32 x5 → ∀ h1, h1 = si h 0 0 0 → R32 ((gi h 0 13) + 20) ∧ ((gi h 0 13) + 20 ≤ 400 → WM GM d 0 mX8_four [vR (some 0), vI x1] h1 (fun r h2 => r = none ∧ WM GM d 0 mX8_four [vR (some 0), vI x2] h2 (fun r h3 => r = none ∧ WM GM d 0 mX8_four [vR (some 0), vI x3] h3 (fun r h4 => r = none ∧ WM GM d 0 mX8_four [vR (some 0), vI x4] h4 (fun r h5 => r = none ∧ WM GM d 0 mX8_four [vR (some 0), vI x5] h5 (fun r h6 => r = none ∧ Q (some (vI (gi h6 0 13))) h6)))))) ∧ (¬((gi h 0 13) + 20 ≤ 400) → Q (some (vI (-1))) h1)) : WM GM (d + 1) b mX8_feed [vR (some 0), vI x1, vI x2, vI x3, vI x4, vI x5] h Q := by
  refine WM_introE (loc' := [some (vR (some 0)), some (vI x1), some (vI x2), some (vI x3), some (vI x4), some (vI x5)]) rfl (by decide) (Nat.le_of_ble_eq_true rfl) ?_
  refine J_rgl (i := 1) rfl (fun r1 => ?_)
  replace K := K r1
  refine J_rgl (i := 2) rfl (fun r2 => ?_)
  replace K := K r2
  refine J_rgl (i := 3) rfl (fun r3 => ?_)
  replace K := K r3
  refine J_rgl (i := 4) rfl (fun r4 => ?_)
  replace K := K r4
  refine J_rgl (i := 5) rfl (fun r5 => ?_)
  replace K := K r5
  refine J_aload_n rfl dX8_feed_0 ?_
  refine J_iconst (by decide) dX8_feed_1 ?_
  refine J_putI fl_RX8_161 rfl (Or.inl rfl) dX8_feed_2 ?_
  replace K := K _ rfl
  refine J_aload_n rfl dX8_feed_5 ?_
  refine J_getIe fl_RX8_238 rfl (Or.inl rfl) (gi_nk (by decide)) dX8_feed_6 ?_
  refine J_bipush (by decide) (by decide) dX8_feed_9 ?_
  refine J_iadd K.1 dX8_feed_11 ?_
  replace K := K.2
  refine J_sipush (by decide) (by decide) dX8_feed_12 ?_
  refine J_icmp_le (tgt := 20) dX8_feed_15 (by decide) (fun c => ?_) (fun c => ?_)
  · replace K := K.1 c
    refine J_aload_n rfl dX8_feed_20 ?_
    refine J_iload_n rfl dX8_feed_21 ?_
    refine J_b0 (J_callV (b1 := 0) (ci := 8) (vs := [vI x1]) (rest := []) (Or.inl rfl) ml_RX8_244 rfl (by decide) rfl rfl (Or.inl rfl) (Nat.le_of_ble_eq_true rfl) rfl dX8_feed_22 (WM_mono K (fun r h2 K => ?_)))
    obtain ⟨rfl, K⟩ := K
    show J _ _ _ _ _ _ _ [] _
    refine J_aload_n rfl dX8_feed_25 ?_
    refine J_iload_n rfl dX8_feed_26 ?_
    refine J_b0 (J_callV (b1 := 0) (ci := 8) (vs := [vI x2]) (rest := []) (Or.inl rfl) ml_RX8_244 rfl (by decide) rfl rfl (Or.inl rfl) (Nat.le_of_ble_eq_true rfl) rfl dX8_feed_27 (WM_mono K (fun r h3 K => ?_)))
    obtain ⟨rfl, K⟩ := K
    show J _ _ _ _ _ _ _ [] _
    refine J_aload_n rfl dX8_feed_30 ?_
    refine J_iload_n rfl dX8_feed_31 ?_
    refine J_b0 (J_callV (b1 := 0) (ci := 8) (vs := [vI x3]) (rest := []) (Or.inl rfl) ml_RX8_244 rfl (by decide) rfl rfl (Or.inl rfl) (Nat.le_of_ble_eq_true rfl) rfl dX8_feed_32 (WM_mono K (fun r h4 K => ?_)))
    obtain ⟨rfl, K⟩ := K
    show J _ _ _ _ _ _ _ [] _
    refine J_aload_n rfl dX8_feed_35 ?_
    refine J_iload rfl dX8_feed_36 ?_
    refine J_b0 (J_callV (b1 := 0) (ci := 8) (vs := [vI x4]) (rest := []) (Or.inl rfl) ml_RX8_244 rfl (by decide) rfl rfl (Or.inl rfl) (Nat.le_of_ble_eq_true rfl) rfl dX8_feed_38 (WM_mono K (fun r h5 K => ?_)))
    obtain ⟨rfl, K⟩ := K
    show J _ _ _ _ _ _ _ [] _
    refine J_aload_n rfl dX8_feed_41 ?_
    refine J_iload rfl dX8_feed_42 ?_
    refine J_b0 (J_callV (b1 := 0) (ci := 8) (vs := [vI x5]) (rest := []) (Or.inl rfl) ml_RX8_244 rfl (by decide) rfl rfl (Or.inl rfl) (Nat.le_of_ble_eq_true rfl) rfl dX8_feed_44 (WM_mono K (fun r h6 K => ?_)))
    obtain ⟨rfl, K⟩ := K
    show J _ _ _ _ _ _ _ [] _
    refine J_aload_n rfl dX8_feed_47 ?_
    refine J_getI fl_RX8_238 rfl (Or.inl rfl) dX8_feed_48 ?_
    exact J_ireturn rfl dX8_feed_51 K
  · replace K := K.2 c
    refine J_iconst (by decide) dX8_feed_18 ?_
    exact J_ireturn rfl dX8_feed_19 K
