def Lp_X7_law_27 (d b : Nat) (Q : Option AV → AH → Prop)   (h : AH) : Prop := J GX (d + 13) b mX7_law Q 27 [some (vR (some 0))] [] h
def Lp_X7_law_49 (d b : Nat) (Q : Option AV → AH → Prop)   (h : AH) : Prop := J GX (d + 13) b mX7_law Q 49 [some (vR (some 0))] [] h
set_option maxRecDepth 20000 in
set_option maxHeartbeats 2000000 in
theorem l_X7_law_27 {d b : Nat} {Q : Option AV → AH → Prop} {h : AH}    (K : WM GX (d + 12) 0 mX3_reads [vR (some 31), vR (some 29), vI 0] h (fun r h1 => ∃ u1, r = some (vI u1) ∧ (u1 = 0 → (∀ i : Int, 0 ≤ i → i < 5 → 0 ≤ gi h1 14 i ∧ gi h1 14 i ≤ 1000000) ∧ ∀ h2, h2 = xRef h1 (-6) → Q (some (vI (-6))) h2) ∧ (¬(u1 = 0) → Lp_X7_law_49 d b Q  h1))) : Lp_X7_law_27 d b Q  h := by
  unfold Lp_X7_law_27
  refine J_aload_n rfl dX7_law_27 ?_
  refine J_getS (r := 31) fl_RX7_43 rfl (Or.inl rfl) rfl dX7_law_28 ?_
  refine J_aload_n rfl dX7_law_31 ?_
  refine J_getS (r := 29) fl_RX7_36 rfl (Or.inl rfl) rfl dX7_law_32 ?_
  refine J_iconst (by decide) dX7_law_35 ?_
  refine J_b0 (J_callV (b1 := 0) (ci := 3) (vs := [vR (some 29), vI 0]) (rest := []) (Or.inr rfl) ml_RX7_194 rfl (by decide) rfl rfl (Or.inl rfl) (Nat.le_of_ble_eq_true rfl) rfl dX7_law_36 (WM_mono K (fun r h1 K => ?_)))
  obtain ⟨u1, rfl, K⟩ := K
  show J _ _ _ _ _ _ _ [vI u1] _
  refine J_if_ne (tgt := 49) dX7_law_39 (by decide) (fun c => ?_) (fun c => ?_)
  · replace K := K.2 c
    exact J_forget (loc' := [some (vR (some 0))]) (And.intro (Or.inr rfl) True.intro) K
  · replace K := K.1 c
    refine J_aload_n rfl dX7_law_42 ?_
    refine J_bipush (by decide) (by decide) dX7_law_43 ?_
    refine J_b0 (J_callV (b1 := 0) (ci := 7) (vs := [vI (-6)]) (rest := []) (Or.inl rfl) ml_RX7_88 rfl (by decide) rfl rfl (Or.inl rfl) (Nat.le_of_ble_eq_true rfl) rfl dX7_law_45 (c_X7_refuse  K.1 ?_))
    replace K := K.2
    replace K := K _ rfl
    show J _ _ _ _ _ _ _ [vI (-6)] _
    exact J_ireturn rfl dX7_law_48 K
set_option maxRecDepth 20000 in
set_option maxHeartbeats 2000000 in
theorem l_X7_law_49 {d b : Nat} {Q : Option AV → AH → Prop} {h : AH}    (K : WM GX (d + 12) 999 mX5_copied [vR (some 35)] h (fun r h1 => ∃ u2, r = some (vR u2) ∧ (0 ≤ gi h 1 16 ∧ gi h 1 16 < 6) ∧ (∀ r, u2 = some r → Kd GX h1 r (.inl 5)) ∧ ∀ h2, h2 = sr h1 13 (gi h 1 16) u2 → R32 ((gi h1 1 16) + 1) ∧ ∀ h3, h3 = si h2 1 16 ((gi h1 1 16) + 1) → R32 (((gi h1 1 16) + 1) - 1) ∧ ∀ h4, h4 = si h3 0 14 0 → Q (some (vI (((gi h1 1 16) + 1) - 1))) h4)) : Lp_X7_law_49 d (999 + b) Q  h := by
  unfold Lp_X7_law_49
  refine J_aload_n rfl dX7_law_49 ?_
  refine J_getS (r := 1) fl_RX7_10 rfl (Or.inl rfl) rfl dX7_law_50 ?_
  refine J_getS (r := 13) fl_RX7_198 rfl (Or.inl rfl) rfl dX7_law_53 ?_
  refine J_aload_n rfl dX7_law_56 ?_
  refine J_getS (r := 1) fl_RX7_10 rfl (Or.inl rfl) rfl dX7_law_57 ?_
  refine J_getI fl_RX7_191 rfl (Or.inl rfl) dX7_law_60 ?_
  refine J_aload_n rfl dX7_law_63 ?_
  refine J_getS (r := 31) fl_RX7_43 rfl (Or.inl rfl) rfl dX7_law_64 ?_
  refine J_getS (r := 35) fl_RX7_202 rfl (Or.inl rfl) rfl dX7_law_67 ?_
  refine (J_callV (b1 := 999) (ci := 5) (vs := []) (rest := [vI (gi h 1 16), vR (some 13)]) (Or.inr rfl) ml_RX7_206 rfl (by decide) rfl rfl (Or.inl rfl) (Nat.le_of_ble_eq_true rfl) rfl dX7_law_70 (WM_mono K (fun r h1 K => ?_)))
  obtain ⟨u2, rfl, K⟩ := K
  show J _ _ _ _ _ _ _ [vR u2, vI (gi h 1 16), vR (some 13)] _
  have K0 := K.1
  replace K := K.2
  refine J_aastore4 (Or.inl rfl) K0 (Or.inl (gx_n12 (o := 1) (by decide) _)) K.1 dX7_law_73 ?_
  replace K := K.2
  replace K := K _ rfl
  refine J_aload_n rfl dX7_law_74 ?_
  refine J_getS (r := 1) fl_RX7_10 rfl (Or.inl rfl) rfl dX7_law_75 ?_
  refine J_dup rfl dX7_law_78 ?_
  refine J_getIe fl_RX7_191 rfl (Or.inl rfl) gi_xr dX7_law_79 ?_
  refine J_iconst (by decide) dX7_law_82 ?_
  refine J_iadd K.1 dX7_law_83 ?_
  replace K := K.2
  refine J_putI fl_RX7_191 rfl (Or.inl rfl) dX7_law_84 ?_
  replace K := K _ rfl
  refine J_aload_n rfl dX7_law_87 ?_
  refine J_aload_n rfl dX7_law_88 ?_
  refine J_getS (r := 1) fl_RX7_10 rfl (Or.inl rfl) rfl dX7_law_89 ?_
  refine J_getIe fl_RX7_191 rfl (Or.inl rfl) gi_eq dX7_law_92 ?_
  refine J_iconst (by decide) dX7_law_95 ?_
  refine J_isub K.1 dX7_law_96 ?_
  replace K := K.2
  refine J_b0 (J_callV (b1 := 0) (ci := 7) (vs := [vI _]) (rest := []) (Or.inl rfl) ml_RX7_98 rfl (by decide) rfl rfl (Or.inl rfl) (Nat.le_of_ble_eq_true rfl) rfl dX7_law_97 (c_X7_granted   ?_))
  replace K := K _ rfl
  show J _ _ _ _ _ _ _ [vI _] _
  exact J_ireturn rfl dX7_law_100 K
set_option maxRecDepth 20000 in
set_option maxHeartbeats 2000000 in
theorem w_X7_law {d b : Nat} {Q : Option AV → AH → Prop} {h : AH}   (K : (gi h 1 16 < 6 → Lp_X7_law_27 d b Q  h) ∧ (¬(gi h 1 16 < 6) → ∀ h1, h1 = si h 29 1 0 → (∀ i : Int, 0 ≤ i → i < 5 → 0 ≤ gi h1 14 i ∧ gi h1 14 i ≤ 1000000) ∧ ∀ h2, h2 = xRef h1 (-5) → Q (some (vI (-5))) h2)) : WM GX (d + 13) b mX7_law [vR (some 0)] h Q := by
  refine WM_introE (loc' := [some (vR (some 0))]) rfl (by decide) (Nat.le_of_ble_eq_true rfl) ?_
  refine J_aload_n rfl dX7_law_0 ?_
  refine J_getS (r := 1) fl_RX7_10 rfl (Or.inl rfl) rfl dX7_law_1 ?_
  refine J_getI fl_RX7_191 rfl (Or.inl rfl) dX7_law_4 ?_
  refine J_bipush (by decide) (by decide) dX7_law_7 ?_
  refine J_icmp_lt (tgt := 27) dX7_law_9 (by decide) (fun c => ?_) (fun c => ?_)
  · replace K := K.1 c
    exact J_forget (loc' := [some (vR (some 0))]) (And.intro (Or.inr rfl) True.intro) K
  · replace K := K.2 c
    refine J_aload_n rfl dX7_law_12 ?_
    refine J_getS (r := 29) fl_RX7_36 rfl (Or.inl rfl) rfl dX7_law_13 ?_
    refine J_iconst (by decide) dX7_law_16 ?_
    refine J_putI fl_RX7_181 rfl (Or.inl rfl) dX7_law_17 ?_
    replace K := K _ rfl
    refine J_aload_n rfl dX7_law_20 ?_
    refine J_bipush (by decide) (by decide) dX7_law_21 ?_
    refine J_b0 (J_callV (b1 := 0) (ci := 7) (vs := [vI (-5)]) (rest := []) (Or.inl rfl) ml_RX7_88 rfl (by decide) rfl rfl (Or.inl rfl) (Nat.le_of_ble_eq_true rfl) rfl dX7_law_23 (c_X7_refuse  K.1 ?_))
    replace K := K.2
    replace K := K _ rfl
    show J _ _ _ _ _ _ _ [vI (-5)] _
    exact J_ireturn rfl dX7_law_26 K
