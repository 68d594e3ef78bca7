set_option maxRecDepth 20000 in
set_option maxHeartbeats 2000000 in
theorem w_X3_note {d b : Nat} {Q : Option AV → AH → Prop} {h : AH} {x1 : Int} {x2 : Int} {x3 : Int}  (K : (gi h 31 3 ≤ 400 → (0 ≤ gi h 31 3 ∧ gi h 31 3 < 401) ∧ ∀ h1, h1 = si h 32 (gi h 31 3) x1 → (0 ≤ gi h 31 3 ∧ gi h 31 3 < 401) ∧ ∀ h2, h2 = si h1 33 (gi h 31 3) x2 → (0 ≤ gi h 31 3 ∧ gi h 31 3 < 401) ∧ ∀ h3, h3 = si h2 34 (gi h 31 3) x3 → R32 ((gi h 31 3) + 1) ∧ ∀ h4, h4 = si h3 31 3 ((gi h 31 3) + 1) → Q none h4) ∧ (¬(gi h 31 3 ≤ 400) → Q none h)) : WM GX d b mX3_note [vR (some 31), vI x1, vI x2, vI x3] h Q := by
  refine WM_introE (loc' := [some (vR (some 31)), some (vI x1), some (vI x2), some (vI x3)]) rfl (by decide) (Nat.le_of_ble_eq_true rfl) ?_
  refine J_aload_n rfl dX3_note_0 ?_
  refine J_getI fl_RX3_21 rfl (Or.inl rfl) dX3_note_1 ?_
  refine J_sipush (by decide) (by decide) dX3_note_4 ?_
  refine J_icmp_le (tgt := 11) dX3_note_7 (by decide) (fun c => ?_) (fun c => ?_)
  · replace K := K.1 c
    refine J_aload_n rfl dX3_note_11 ?_
    refine J_getS (r := 32) fl_RX3_9 rfl (Or.inl rfl) rfl dX3_note_12 ?_
    refine J_aload_n rfl dX3_note_15 ?_
    refine J_getI fl_RX3_21 rfl (Or.inl rfl) dX3_note_16 ?_
    refine J_iload_n rfl dX3_note_19 ?_
    refine J_iastore (Or.inl rfl) K.1 dX3_note_20 ?_
    replace K := K.2
    replace K := K _ rfl
    refine J_aload_n rfl dX3_note_21 ?_
    refine J_getS (r := 33) fl_RX3_15 rfl (Or.inl rfl) rfl dX3_note_22 ?_
    refine J_aload_n rfl dX3_note_25 ?_
    refine J_getIe fl_RX3_21 rfl (Or.inl rfl) (gi_no (by decide)) dX3_note_26 ?_
    refine J_iload_n rfl dX3_note_29 ?_
    refine J_iastore (Or.inl rfl) K.1 dX3_note_30 ?_
    replace K := K.2
    replace K := K _ rfl
    refine J_aload_n rfl dX3_note_31 ?_
    refine J_getS (r := 34) fl_RX3_18 rfl (Or.inl rfl) rfl dX3_note_32 ?_
    refine J_aload_n rfl dX3_note_35 ?_
    refine J_getIe fl_RX3_21 rfl (Or.inl rfl) (Eq.trans (gi_no (by decide)) (gi_no (by decide))) dX3_note_36 ?_
    refine J_iload_n rfl dX3_note_39 ?_
    refine J_iastore (Or.inl rfl) K.1 dX3_note_40 ?_
    replace K := K.2
    replace K := K _ rfl
    refine J_aload_n rfl dX3_note_41 ?_
    refine J_dup rfl dX3_note_42 ?_
    refine J_getIe fl_RX3_21 rfl (Or.inl rfl) (Eq.trans (gi_no (by decide)) (Eq.trans (gi_no (by decide)) (gi_no (by decide)))) dX3_note_43 ?_
    refine J_iconst (by decide) dX3_note_46 ?_
    refine J_iadd K.1 dX3_note_47 ?_
    replace K := K.2
    refine J_putI fl_RX3_21 rfl (Or.inl rfl) dX3_note_48 ?_
    replace K := K _ rfl
    exact J_return rfl dX3_note_51 K
  · replace K := K.2 c
    exact J_return rfl dX3_note_10 K
set_option maxRecDepth 20000 in
set_option maxHeartbeats 2000000 in
theorem w_X3_advance {d b : Nat} {Q : Option AV → AH → Prop} {h : AH}   (K : R32 ((gi h 31 4) + 1) ∧ ((gi h 31 4) + 1 < gi h 31 3 → R32 ((gi h 31 4) + 1) ∧ ∀ h1, h1 = si h 31 4 ((gi h 31 4) + 1) → (0 ≤ (gi h 31 4) + 1 ∧ (gi h 31 4) + 1 < 401) ∧ ∀ h2, h2 = si h1 31 5 (gi h 32 ((gi h 31 4) + 1)) → Q none h2) ∧ (¬((gi h 31 4) + 1 < gi h 31 3) → Q none h)) : WM GX d b mX3_advance [vR (some 31)] h Q := by
  refine WM_introE (loc' := [some (vR (some 31))]) rfl (by decide) (Nat.le_of_ble_eq_true rfl) ?_
  refine J_aload_n rfl dX3_advance_0 ?_
  refine J_getI fl_RX3_25 rfl (Or.inl rfl) dX3_advance_1 ?_
  refine J_iconst (by decide) dX3_advance_4 ?_
  refine J_iadd K.1 dX3_advance_5 ?_
  replace K := K.2
  refine J_aload_n rfl dX3_advance_6 ?_
  refine J_getI fl_RX3_21 rfl (Or.inl rfl) dX3_advance_7 ?_
  refine J_icmp_lt (tgt := 14) dX3_advance_10 (by decide) (fun c => ?_) (fun c => ?_)
  · replace K := K.1 c
    refine J_aload_n rfl dX3_advance_14 ?_
    refine J_dup rfl dX3_advance_15 ?_
    refine J_getI fl_RX3_25 rfl (Or.inl rfl) dX3_advance_16 ?_
    refine J_iconst (by decide) dX3_advance_19 ?_
    refine J_iadd K.1 dX3_advance_20 ?_
    replace K := K.2
    refine J_putI fl_RX3_25 rfl (Or.inl rfl) dX3_advance_21 ?_
    replace K := K _ rfl
    refine J_aload_n rfl dX3_advance_24 ?_
    refine J_aload_n rfl dX3_advance_25 ?_
    refine J_getS (r := 32) fl_RX3_9 rfl (Or.inl rfl) rfl dX3_advance_26 ?_
    refine J_aload_n rfl dX3_advance_29 ?_
    refine J_getIe fl_RX3_25 rfl (Or.inl rfl) gi_eq dX3_advance_30 ?_
    refine J_ialoade (Or.inl rfl) K.1 (gi_no (by decide)) dX3_advance_33 ?_
    replace K := K.2
    refine J_putI fl_RX3_28 rfl (Or.inl rfl) dX3_advance_34 ?_
    replace K := K _ rfl
    exact J_return rfl dX3_advance_37 K
  · replace K := K.2 c
    exact J_return rfl dX3_advance_13 K
set_option maxRecDepth 20000 in
set_option maxHeartbeats 2000000 in
theorem w_X3_numberFrom {d b : Nat} {Q : Option AV → AH → Prop} {h : AH} {x1 : Int} {x2 : Int}  (K : (gi h 31 5 = 256 → (0 ≤ gi h 31 4 ∧ gi h 31 4 < 401) ∧ (gi h 34 (gi h 31 4) < x1 → Q (some (vI (-1))) h) ∧ (¬(gi h 34 (gi h 31 4) < x1) → (0 ≤ gi h 31 4 ∧ gi h 31 4 < 401) ∧ (x2 < gi h 34 (gi h 31 4) → Q (some (vI (-1))) h) ∧ (¬(x2 < gi h 34 (gi h 31 4)) → (0 ≤ gi h 31 4 ∧ gi h 31 4 < 401) ∧ Q (some (vI (gi h 34 (gi h 31 4)))) h))) ∧ (¬(gi h 31 5 = 256) → Q (some (vI (-1))) h)) : WM GX d b mX3_numberFrom [vR (some 31), vI x1, vI x2] h Q := by
  refine WM_introE (loc' := [some (vR (some 31)), some (vI x1), some (vI x2)]) rfl (by decide) (Nat.le_of_ble_eq_true rfl) ?_
  refine J_aload_n rfl dX3_numberFrom_0 ?_
  refine J_getI fl_RX3_28 rfl (Or.inl rfl) dX3_numberFrom_1 ?_
  refine J_sipush (by decide) (by decide) dX3_numberFrom_4 ?_
  refine J_icmp_ne (tgt := 48) dX3_numberFrom_7 (by decide) (fun c => ?_) (fun c => ?_)
  · replace K := K.2 c
    refine J_iconst (by decide) dX3_numberFrom_48 ?_
    exact J_ireturn rfl dX3_numberFrom_49 K
  · replace K := K.1 c
    refine J_aload_n rfl dX3_numberFrom_10 ?_
    refine J_getS (r := 34) fl_RX3_18 rfl (Or.inl rfl) rfl dX3_numberFrom_11 ?_
    refine J_aload_n rfl dX3_numberFrom_14 ?_
    refine J_getI fl_RX3_25 rfl (Or.inl rfl) dX3_numberFrom_15 ?_
    refine J_iaload (Or.inl rfl) K.1 dX3_numberFrom_18 ?_
    replace K := K.2
    refine J_iload_n rfl dX3_numberFrom_19 ?_
    refine J_icmp_lt (tgt := 48) dX3_numberFrom_20 (by decide) (fun c => ?_) (fun c => ?_)
    · replace K := K.1 c
      refine J_iconst (by decide) dX3_numberFrom_48 ?_
      exact J_ireturn rfl dX3_numberFrom_49 K
    · replace K := K.2 c
      refine J_aload_n rfl dX3_numberFrom_23 ?_
      refine J_getS (r := 34) fl_RX3_18 rfl (Or.inl rfl) rfl dX3_numberFrom_24 ?_
      refine J_aload_n rfl dX3_numberFrom_27 ?_
      refine J_getI fl_RX3_25 rfl (Or.inl rfl) dX3_numberFrom_28 ?_
      refine J_iaload (Or.inl rfl) K.1 dX3_numberFrom_31 ?_
      replace K := K.2
      refine J_iload_n rfl dX3_numberFrom_32 ?_
      refine J_icmp_gt (tgt := 48) dX3_numberFrom_33 (by decide) (fun c => ?_) (fun c => ?_)
      · replace K := K.1 c
        refine J_iconst (by decide) dX3_numberFrom_48 ?_
        exact J_ireturn rfl dX3_numberFrom_49 K
      · replace K := K.2 c
        refine J_aload_n rfl dX3_numberFrom_36 ?_
        refine J_getS (r := 34) fl_RX3_18 rfl (Or.inl rfl) rfl dX3_numberFrom_37 ?_
        refine J_aload_n rfl dX3_numberFrom_40 ?_
        refine J_getI fl_RX3_25 rfl (Or.inl rfl) dX3_numberFrom_41 ?_
        refine J_iaload (Or.inl rfl) K.1 dX3_numberFrom_44 ?_
        replace K := K.2
        refine J_goto (tgt := 49) dX3_numberFrom_45 (by decide) ?_
        exact J_ireturn rfl dX3_numberFrom_49 K
set_option maxRecDepth 20000 in
set_option maxHeartbeats 2000000 in
theorem w_X3_lawVerb {d b : Nat} {Q : Option AV → AH → Prop} {h : AH} {x1 : Int}  (K : (x1 < 15 → Q (some (vI (-1))) h) ∧ (¬(x1 < 15) → (18 < x1 → Q (some (vI (-1))) h) ∧ (¬(18 < x1) → R32 (x1 - 15) ∧ Q (some (vI (x1 - 15))) h))) : WM GX d b mX3_lawVerb [vI x1] h Q := by
  refine WM_introE (loc' := [some (vI x1)]) rfl (by decide) (Nat.le_of_ble_eq_true rfl) ?_
  refine J_iload_n rfl dX3_lawVerb_0 ?_
  refine J_bipush (by decide) (by decide) dX3_lawVerb_1 ?_
  refine J_icmp_lt (tgt := 19) dX3_lawVerb_3 (by decide) (fun c => ?_) (fun c => ?_)
  · replace K := K.1 c
    refine J_iconst (by decide) dX3_lawVerb_19 ?_
    exact J_ireturn rfl dX3_lawVerb_20 K
  · replace K := K.2 c
    refine J_iload_n rfl dX3_lawVerb_6 ?_
    refine J_bipush (by decide) (by decide) dX3_lawVerb_7 ?_
    refine J_icmp_gt (tgt := 19) dX3_lawVerb_9 (by decide) (fun c => ?_) (fun c => ?_)
    · replace K := K.1 c
      refine J_iconst (by decide) dX3_lawVerb_19 ?_
      exact J_ireturn rfl dX3_lawVerb_20 K
    · replace K := K.2 c
      refine J_iload_n rfl dX3_lawVerb_12 ?_
      refine J_bipush (by decide) (by decide) dX3_lawVerb_13 ?_
      refine J_isub K.1 dX3_lawVerb_15 ?_
      replace K := K.2
      refine J_goto (tgt := 20) dX3_lawVerb_16 (by decide) ?_
      exact J_ireturn rfl dX3_lawVerb_20 K
set_option maxRecDepth 20000 in
set_option maxHeartbeats 2000000 in
theorem w_X3_orderVerb {d b : Nat} {Q : Option AV → AH → Prop} {h : AH} {x1 : Int}  (K : (x1 = 7 → Q (some (vI 2)) h) ∧ (¬(x1 = 7) → (x1 = 19 → Q (some (vI 0)) h) ∧ (¬(x1 = 19) → (x1 = 20 → Q (some (vI 1)) h) ∧ (¬(x1 = 20) → (x1 = 21 → Q (some (vI 3)) h) ∧ (¬(x1 = 21) → (x1 = 22 → Q (some (vI 4)) h) ∧ (¬(x1 = 22) → Q (some (vI (-1))) h)))))) : WM GX d b mX3_orderVerb [vI x1] h Q := by
  refine WM_introE (loc' := [some (vI x1)]) rfl (by decide) (Nat.le_of_ble_eq_true rfl) ?_
  refine J_iload_n rfl dX3_orderVerb_0 ?_
  by_cases c : x1 = 7
  · replace K := K.1 c
    rw [c]
    refine J_ls (tgt := 56) rfl (by decide) dX3_orderVerb_1 (by decide) ?_
    refine J_iconst (by decide) dX3_orderVerb_56 ?_
    exact J_ireturn rfl dX3_orderVerb_57 K
  replace K := K.2 c
  have cc1 := c
  clear c
  by_cases c : x1 = 19
  · replace K := K.1 c
    rw [c]
    refine J_ls (tgt := 52) rfl (by decide) dX3_orderVerb_1 (by decide) ?_
    refine J_iconst (by decide) dX3_orderVerb_52 ?_
    exact J_ireturn rfl dX3_orderVerb_53 K
  replace K := K.2 c
  have cc2 := c
  clear c
  by_cases c : x1 = 20
  · replace K := K.1 c
    rw [c]
    refine J_ls (tgt := 54) rfl (by decide) dX3_orderVerb_1 (by decide) ?_
    refine J_iconst (by decide) dX3_orderVerb_54 ?_
    exact J_ireturn rfl dX3_orderVerb_55 K
  replace K := K.2 c
  have cc3 := c
  clear c
  by_cases c : x1 = 21
  · replace K := K.1 c
    rw [c]
    refine J_ls (tgt := 58) rfl (by decide) dX3_orderVerb_1 (by decide) ?_
    refine J_iconst (by decide) dX3_orderVerb_58 ?_
    exact J_ireturn rfl dX3_orderVerb_59 K
  replace K := K.2 c
  have cc4 := c
  clear c
  by_cases c : x1 = 22
  · replace K := K.1 c
    rw [c]
    refine J_ls (tgt := 60) rfl (by decide) dX3_orderVerb_1 (by decide) ?_
    refine J_iconst (by decide) dX3_orderVerb_60 ?_
    exact J_ireturn rfl dX3_orderVerb_61 K
  replace K := K.2 c
  have cc5 := c
  clear c
  refine J_ls (off := 61) (tgt := 62) (by simp [Op.lookupswitch.offset, List.find?]; (repeat' split) <;> omega) (by decide) dX3_orderVerb_1 (by decide) ?_
  refine J_iconst (by decide) dX3_orderVerb_62 ?_
  exact J_ireturn rfl dX3_orderVerb_63 K
set_option maxRecDepth 20000 in
set_option maxHeartbeats 2000000 in
theorem w_X3_lawFact {d b : Nat} {Q : Option AV → AH → Prop} {h : AH} {x1 : Int}  (K : (x1 < 0 → Q (some (vI (-1))) h) ∧ (¬(x1 < 0) → (10 < x1 → Q (some (vI (-1))) h) ∧ (¬(10 < x1) → Q (some (vI x1)) h))) : WM GX d b mX3_lawFact [vI x1] h Q := by
  refine WM_introE (loc' := [some (vI x1)]) rfl (by decide) (Nat.le_of_ble_eq_true rfl) ?_
  refine J_iload_n rfl dX3_lawFact_0 ?_
  refine J_if_lt (tgt := 14) dX3_lawFact_1 (by decide) (fun c => ?_) (fun c => ?_)
  · replace K := K.1 c
    refine J_iconst (by decide) dX3_lawFact_14 ?_
    exact J_ireturn rfl dX3_lawFact_15 K
  · replace K := K.2 c
    refine J_iload_n rfl dX3_lawFact_4 ?_
    refine J_bipush (by decide) (by decide) dX3_lawFact_5 ?_
    refine J_icmp_gt (tgt := 14) dX3_lawFact_7 (by decide) (fun c => ?_) (fun c => ?_)
    · replace K := K.1 c
      refine J_iconst (by decide) dX3_lawFact_14 ?_
      exact J_ireturn rfl dX3_lawFact_15 K
    · replace K := K.2 c
      refine J_iload_n rfl dX3_lawFact_10 ?_
      refine J_goto (tgt := 15) dX3_lawFact_11 (by decide) ?_
      exact J_ireturn rfl dX3_lawFact_15 K
set_option maxRecDepth 20000 in
set_option maxHeartbeats 2000000 in
theorem w_X3_orderFact {d b : Nat} {Q : Option AV → AH → Prop} {h : AH} {x1 : Int}  (K : (x1 = 4 → Q (some (vI 22)) h) ∧ (¬(x1 = 4) → (x1 = 5 → Q (some (vI (-1))) h) ∧ (¬(x1 = 5) → (x1 = 6 → Q (some (vI (-1))) h) ∧ (¬(x1 = 6) → (x1 = 7 → Q (some (vI (-1))) h) ∧ (¬(x1 = 7) → (x1 = 8 → Q (some (vI 30)) h) ∧ (¬(x1 = 8) → (x1 = 9 → Q (some (vI 9)) h) ∧ (¬(x1 = 9) → (x1 = 10 → Q (some (vI (-1))) h) ∧ (¬(x1 = 10) → (x1 = 11 → Q (some (vI 11)) h) ∧ (¬(x1 = 11) → (x1 = 12 → Q (some (vI 12)) h) ∧ (¬(x1 = 12) → (x1 = 13 → Q (some (vI 13)) h) ∧ (¬(x1 = 13) → (x1 = 14 → Q (some (vI 14)) h) ∧ (¬(x1 = 14) → Q (some (vI (-1))) h)))))))))))) : WM GX d b mX3_orderFact [vI x1] h Q := by
  refine WM_introE (loc' := [some (vI x1)]) rfl (by decide) (Nat.le_of_ble_eq_true rfl) ?_
  refine J_iload_n rfl dX3_orderFact_0 ?_
  by_cases c : x1 = 4
  · replace K := K.1 c
    refine J_tsIn (tgt := 75) 4 c (by decide) (by decide) rfl dX3_orderFact_1 (by decide) ?_
    refine J_bipush (by decide) (by decide) dX3_orderFact_75 ?_
    exact J_ireturn rfl dX3_orderFact_77 K
  replace K := K.2 c
  have cc1 := c
  clear c
  by_cases c : x1 = 5
  · replace K := K.1 c
    refine J_tsIn (tgt := 81) 5 c (by decide) (by decide) rfl dX3_orderFact_1 (by decide) ?_
    refine J_iconst (by decide) dX3_orderFact_81 ?_
    exact J_ireturn rfl dX3_orderFact_82 K
  replace K := K.2 c
  have cc2 := c
  clear c
  by_cases c : x1 = 6
  · replace K := K.1 c
    refine J_tsIn (tgt := 81) 6 c (by decide) (by decide) rfl dX3_orderFact_1 (by decide) ?_
    refine J_iconst (by decide) dX3_orderFact_81 ?_
    exact J_ireturn rfl dX3_orderFact_82 K
  replace K := K.2 c
  have cc3 := c
  clear c
  by_cases c : x1 = 7
  · replace K := K.1 c
    refine J_tsIn (tgt := 81) 7 c (by decide) (by decide) rfl dX3_orderFact_1 (by decide) ?_
    refine J_iconst (by decide) dX3_orderFact_81 ?_
    exact J_ireturn rfl dX3_orderFact_82 K
  replace K := K.2 c
  have cc4 := c
  clear c
  by_cases c : x1 = 8
  · replace K := K.1 c
    refine J_tsIn (tgt := 78) 8 c (by decide) (by decide) rfl dX3_orderFact_1 (by decide) ?_
    refine J_bipush (by decide) (by decide) dX3_orderFact_78 ?_
    exact J_ireturn rfl dX3_orderFact_80 K
  replace K := K.2 c
  have cc5 := c
  clear c
  by_cases c : x1 = 9
  · replace K := K.1 c
    refine J_tsIn (tgt := 60) 9 c (by decide) (by decide) rfl dX3_orderFact_1 (by decide) ?_
    refine J_bipush (by decide) (by decide) dX3_orderFact_60 ?_
    exact J_ireturn rfl dX3_orderFact_62 K
  replace K := K.2 c
  have cc6 := c
  clear c
  by_cases c : x1 = 10
  · replace K := K.1 c
    refine J_tsIn (tgt := 81) 10 c (by decide) (by decide) rfl dX3_orderFact_1 (by decide) ?_
    refine J_iconst (by decide) dX3_orderFact_81 ?_
    exact J_ireturn rfl dX3_orderFact_82 K
  replace K := K.2 c
  have cc7 := c
  clear c
  by_cases c : x1 = 11
  · replace K := K.1 c
    refine J_tsIn (tgt := 63) 11 c (by decide) (by decide) rfl dX3_orderFact_1 (by decide) ?_
    refine J_bipush (by decide) (by decide) dX3_orderFact_63 ?_
    exact J_ireturn rfl dX3_orderFact_65 K
  replace K := K.2 c
  have cc8 := c
  clear c
  by_cases c : x1 = 12
  · replace K := K.1 c
    refine J_tsIn (tgt := 66) 12 c (by decide) (by decide) rfl dX3_orderFact_1 (by decide) ?_
    refine J_bipush (by decide) (by decide) dX3_orderFact_66 ?_
    exact J_ireturn rfl dX3_orderFact_68 K
  replace K := K.2 c
  have cc9 := c
  clear c
  by_cases c : x1 = 13
  · replace K := K.1 c
    refine J_tsIn (tgt := 69) 13 c (by decide) (by decide) rfl dX3_orderFact_1 (by decide) ?_
    refine J_bipush (by decide) (by decide) dX3_orderFact_69 ?_
    exact J_ireturn rfl dX3_orderFact_71 K
  replace K := K.2 c
  have cc10 := c
  clear c
  by_cases c : x1 = 14
  · replace K := K.1 c
    refine J_tsIn (tgt := 72) 14 c (by decide) (by decide) rfl dX3_orderFact_1 (by decide) ?_
    refine J_bipush (by decide) (by decide) dX3_orderFact_72 ?_
    exact J_ireturn rfl dX3_orderFact_74 K
  replace K := K.2 c
  have cc11 := c
  clear c
  refine J_tsOut (tgt := 81) (by omega) dX3_orderFact_1 (by decide) ?_
  refine J_iconst (by decide) dX3_orderFact_81 ?_
  exact J_ireturn rfl dX3_orderFact_82 K
set_option maxRecDepth 20000 in
set_option maxHeartbeats 2000000 in
theorem w_X5_tell {d b : Nat} {Q : Option AV → AH → Prop} {h : AH} {x1 : Int} {x2 : Int}  (K : R32 ((gi h 35 0) - 1) ∧ R32 (((gi h 35 0) - 1) * 5) ∧ R32 ((((gi h 35 0) - 1) * 5) + x1) ∧ ((((gi h 35 0) - 1) * 5) + x1 < 0 → Q none h) ∧ (¬((((gi h 35 0) - 1) * 5) + x1 < 0) → (60 ≤ (((gi h 35 0) - 1) * 5) + x1 → Q none h) ∧ (¬(60 ≤ (((gi h 35 0) - 1) * 5) + x1) → (0 ≤ (((gi h 35 0) - 1) * 5) + x1 ∧ (((gi h 35 0) - 1) * 5) + x1 < 60) ∧ ∀ h1, h1 = si h 36 ((((gi h 35 0) - 1) * 5) + x1) x2 → Q none h1))) : WM GX d b mX5_tell [vR (some 35), vI x1, vI x2] h Q := by
  refine WM_introE (loc' := [some (vR (some 35)), some (vI x1), some (vI x2), none]) rfl (by decide) (Nat.le_of_ble_eq_true rfl) ?_
  refine J_aload_n rfl dX5_tell_0 ?_
  refine J_getI fl_RX5_9 rfl (Or.inl rfl) dX5_tell_1 ?_
  refine J_iconst (by decide) dX5_tell_4 ?_
  refine J_isub K.1 dX5_tell_5 ?_
  replace K := K.2
  refine J_iconst (by decide) dX5_tell_6 ?_
  refine J_imul K.1 dX5_tell_7 ?_
  replace K := K.2
  refine J_iload_n rfl dX5_tell_8 ?_
  refine J_iadd K.1 dX5_tell_9 ?_
  replace K := K.2
  refine J_istore_n (loc' := [some (vR (some 35)), some (vI x1), some (vI x2), some (vI ((((gi h 35 0) - 1) * 5) + x1))]) (by decide) rfl dX5_tell_10 ?_
  refine J_iload_n rfl dX5_tell_11 ?_
  refine J_if_lt (tgt := 31) dX5_tell_12 (by decide) (fun c => ?_) (fun c => ?_)
  · replace K := K.1 c
    exact J_return rfl dX5_tell_31 K
  · replace K := K.2 c
    refine J_iload_n rfl dX5_tell_15 ?_
    refine J_aload_n rfl dX5_tell_16 ?_
    refine J_getS (r := 36) fl_RX5_18 rfl (Or.inl rfl) rfl dX5_tell_17 ?_
    refine J_alen (by decide) (by decide) (Or.inl rfl) dX5_tell_20 ?_
    refine J_icmp_ge (tgt := 31) dX5_tell_21 (by decide) (fun c => ?_) (fun c => ?_)
    · replace K := K.1 c
      exact J_return rfl dX5_tell_31 K
    · replace K := K.2 c
      refine J_aload_n rfl dX5_tell_24 ?_
      refine J_getS (r := 36) fl_RX5_18 rfl (Or.inl rfl) rfl dX5_tell_25 ?_
      refine J_iload_n rfl dX5_tell_28 ?_
      refine J_iload_n rfl dX5_tell_29 ?_
      refine J_iastore (Or.inl rfl) K.1 dX5_tell_30 ?_
      replace K := K.2
      replace K := K _ rfl
      exact J_return rfl dX5_tell_31 K
set_option maxRecDepth 20000 in
set_option maxHeartbeats 2000000 in
theorem w_X5_add {d b : Nat} {Q : Option AV → AH → Prop} {h : AH} {x1 : Int} {x2 : Int}  (K : R32 ((gi h 35 2) + 1) ∧ ((gi h 35 2) + 1 < 872 → (0 ≤ gi h 35 2 ∧ gi h 35 2 < 872) ∧ ∀ h1, h1 = si h 37 (gi h 35 2) x1 → R32 ((gi h 35 2) + 1) ∧ (0 ≤ (gi h 35 2) + 1 ∧ (gi h 35 2) + 1 < 872) ∧ ∀ h2, h2 = si h1 37 ((gi h 35 2) + 1) x2 → R32 ((gi h 35 2) + 2) ∧ ∀ h3, h3 = si h2 35 2 ((gi h 35 2) + 2) → Q none h3) ∧ (¬((gi h 35 2) + 1 < 872) → Q none h)) : WM GX d b mX5_add [vR (some 35), vI x1, vI x2] h Q := by
  refine WM_introE (loc' := [some (vR (some 35)), some (vI x1), some (vI x2)]) rfl (by decide) (Nat.le_of_ble_eq_true rfl) ?_
  refine J_aload_n rfl dX5_add_0 ?_
  refine J_getI fl_RX5_15 rfl (Or.inl rfl) dX5_add_1 ?_
  refine J_iconst (by decide) dX5_add_4 ?_
  refine J_iadd K.1 dX5_add_5 ?_
  replace K := K.2
  refine J_aload_n rfl dX5_add_6 ?_
  refine J_getS (r := 37) fl_RX5_22 rfl (Or.inl rfl) rfl dX5_add_7 ?_
  refine J_alen (by decide) (by decide) (Or.inl rfl) dX5_add_10 ?_
  refine J_icmp_lt (tgt := 15) dX5_add_11 (by decide) (fun c => ?_) (fun c => ?_)
  · replace K := K.1 c
    refine J_aload_n rfl dX5_add_15 ?_
    refine J_getS (r := 37) fl_RX5_22 rfl (Or.inl rfl) rfl dX5_add_16 ?_
    refine J_aload_n rfl dX5_add_19 ?_
    refine J_getI fl_RX5_15 rfl (Or.inl rfl) dX5_add_20 ?_
    refine J_iload_n rfl dX5_add_23 ?_
    refine J_iastore (Or.inl rfl) K.1 dX5_add_24 ?_
    replace K := K.2
    replace K := K _ rfl
    refine J_aload_n rfl dX5_add_25 ?_
    refine J_getS (r := 37) fl_RX5_22 rfl (Or.inl rfl) rfl dX5_add_26 ?_
    refine J_aload_n rfl dX5_add_29 ?_
    refine J_getIe fl_RX5_15 rfl (Or.inl rfl) (gi_no (by decide)) dX5_add_30 ?_
    refine J_iconst (by decide) dX5_add_33 ?_
    refine J_iadd K.1 dX5_add_34 ?_
    replace K := K.2
    refine J_iload_n rfl dX5_add_35 ?_
    refine J_iastore (Or.inl rfl) K.1 dX5_add_36 ?_
    replace K := K.2
    replace K := K _ rfl
    refine J_aload_n rfl dX5_add_37 ?_
    refine J_dup rfl dX5_add_38 ?_
    refine J_getIe fl_RX5_15 rfl (Or.inl rfl) (Eq.trans (gi_no (by decide)) (gi_no (by decide))) dX5_add_39 ?_
    refine J_iconst (by decide) dX5_add_42 ?_
    refine J_iadd K.1 dX5_add_43 ?_
    replace K := K.2
    refine J_putI fl_RX5_15 rfl (Or.inl rfl) dX5_add_44 ?_
    replace K := K _ rfl
    exact J_return rfl dX5_add_47 K
  · replace K := K.2 c
    exact J_return rfl dX5_add_14 K
set_option maxRecDepth 20000 in
set_option maxHeartbeats 2000000 in
theorem w_X5_land {d b : Nat} {Q : Option AV → AH → Prop} {h : AH} {x1 : Int}  (K : (x1 < 0 → Q none h) ∧ (¬(x1 < 0) → (872 ≤ x1 → Q none h) ∧ (¬(872 ≤ x1) → (0 ≤ x1 ∧ x1 < 872) ∧ ∀ h1, h1 = si h 37 x1 (gi h 35 2) → Q none h1))) : WM GX d b mX5_land [vR (some 35), vI x1] h Q := by
  refine WM_introE (loc' := [some (vR (some 35)), some (vI x1)]) rfl (by decide) (Nat.le_of_ble_eq_true rfl) ?_
  refine J_iload_n rfl dX5_land_0 ?_
  refine J_if_lt (tgt := 23) dX5_land_1 (by decide) (fun c => ?_) (fun c => ?_)
  · replace K := K.1 c
    exact J_return rfl dX5_land_23 K
  · replace K := K.2 c
    refine J_iload_n rfl dX5_land_4 ?_
    refine J_aload_n rfl dX5_land_5 ?_
    refine J_getS (r := 37) fl_RX5_22 rfl (Or.inl rfl) rfl dX5_land_6 ?_
    refine J_alen (by decide) (by decide) (Or.inl rfl) dX5_land_9 ?_
    refine J_icmp_ge (tgt := 23) dX5_land_10 (by decide) (fun c => ?_) (fun c => ?_)
    · replace K := K.1 c
      exact J_return rfl dX5_land_23 K
    · replace K := K.2 c
      refine J_aload_n rfl dX5_land_13 ?_
      refine J_getS (r := 37) fl_RX5_22 rfl (Or.inl rfl) rfl dX5_land_14 ?_
      refine J_iload_n rfl dX5_land_17 ?_
      refine J_aload_n rfl dX5_land_18 ?_
      refine J_getI fl_RX5_15 rfl (Or.inl rfl) dX5_land_19 ?_
      refine J_iastore (Or.inl rfl) K.1 dX5_land_22 ?_
      replace K := K.2
      replace K := K _ rfl
      exact J_return rfl dX5_land_23 K
set_option maxRecDepth 20000 in
set_option maxHeartbeats 2000000 in
theorem w_X8_isWord {d b : Nat} {Q : Option AV → AH → Prop} {h : AH} {x1 : Int}  (K : (gi h 0 16 = 1 → (gl h 0 17 = x1 → Q (some (vI 1)) h) ∧ (¬(gl h 0 17 = x1) → Q (some (vI 0)) h)) ∧ (¬(gi h 0 16 = 1) → Q (some (vI 0)) h)) : WM GM d b mX8_isWord [vR (some 0), vL x1] h Q := by
  refine WM_introE (loc' := [some (vR (some 0)), some (vL x1), none]) rfl (by decide) (Nat.le_of_ble_eq_true rfl) ?_
  refine J_aload_n rfl dX8_isWord_0 ?_
  refine J_getI fl_RX8_270 rfl (Or.inl rfl) dX8_isWord_1 ?_
  refine J_iconst (by decide) dX8_isWord_4 ?_
  refine J_icmp_ne (tgt := 21) dX8_isWord_5 (by decide) (fun c => ?_) (fun c => ?_)
  · replace K := K.2 c
    refine J_iconst (by decide) dX8_isWord_21 ?_
    exact J_zreturn ⟨rfl, by decide⟩ dX8_isWord_22 K
  · replace K := K.1 c
    refine J_aload_n rfl dX8_isWord_8 ?_
    refine J_getL fl_RX8_260 rfl (Or.inl rfl) dX8_isWord_9 ?_
    refine J_lload_n rfl dX8_isWord_12 ?_
    refine J_lcmp dX8_isWord_13 ?_
    refine J_if_ne (tgt := 21) dX8_isWord_14 (by decide) (fun c => ?_) (fun c => ?_)
    · replace K := K.2 (fun z => c (zc_eq.mpr z))
      refine J_iconst (by decide) dX8_isWord_21 ?_
      exact J_zreturn ⟨rfl, by decide⟩ dX8_isWord_22 K
    · replace K := K.1 (zc_eq.mp c)
      refine J_iconst (by decide) dX8_isWord_17 ?_
      refine J_goto (tgt := 22) dX8_isWord_18 (by decide) ?_
      exact J_zreturn ⟨rfl, by decide⟩ dX8_isWord_22 K
set_option maxRecDepth 20000 in
set_option maxHeartbeats 2000000 in
theorem w_X8_isSign {d b : Nat} {Q : Option AV → AH → Prop} {h : AH} {x1 : Int}  (K : (gi h 0 16 = 3 → (gl h 0 17 = x1 → Q (some (vI 1)) h) ∧ (¬(gl h 0 17 = x1) → Q (some (vI 0)) h)) ∧ (¬(gi h 0 16 = 3) → Q (some (vI 0)) h)) : WM GM d b mX8_isSign [vR (some 0), vI x1] h Q := by
  refine WM_introE (loc' := [some (vR (some 0)), some (vI x1)]) rfl (by decide) (Nat.le_of_ble_eq_true rfl) ?_
  refine J_aload_n rfl dX8_isSign_0 ?_
  refine J_getI fl_RX8_270 rfl (Or.inl rfl) dX8_isSign_1 ?_
  refine J_iconst (by decide) dX8_isSign_4 ?_
  refine J_icmp_ne (tgt := 22) dX8_isSign_5 (by decide) (fun c => ?_) (fun c => ?_)
  · replace K := K.2 c
    refine J_iconst (by decide) dX8_isSign_22 ?_
    exact J_zreturn ⟨rfl, by decide⟩ dX8_isSign_23 K
  · replace K := K.1 c
    refine J_aload_n rfl dX8_isSign_8 ?_
    refine J_getL fl_RX8_260 rfl (Or.inl rfl) dX8_isSign_9 ?_
    refine J_iload_n rfl dX8_isSign_12 ?_
    refine J_i2l dX8_isSign_13 ?_
    refine J_lcmp dX8_isSign_14 ?_
    refine J_if_ne (tgt := 22) dX8_isSign_15 (by decide) (fun c => ?_) (fun c => ?_)
    · replace K := K.2 (fun z => c (zc_eq.mpr z))
      refine J_iconst (by decide) dX8_isSign_22 ?_
      exact J_zreturn ⟨rfl, by decide⟩ dX8_isSign_23 K
    · replace K := K.1 (zc_eq.mp c)
      refine J_iconst (by decide) dX8_isSign_18 ?_
      refine J_goto (tgt := 23) dX8_isSign_19 (by decide) ?_
      exact J_zreturn ⟨rfl, by decide⟩ dX8_isSign_23 K
def Lp_X8_isCompared_7 (d b : Nat) (Q : Option AV → AH → Prop)  (y1 : Int) (h : AH) : Prop := J GM (d + 1) b mX8_isCompared Q 7 [some (vR (some 0)), some (vI y1)] [] h
set_option maxRecDepth 20000 in
set_option maxHeartbeats 2000000 in
theorem l_X8_isCompared_7 {d b : Nat} {Q : Option AV → AH → Prop} {h : AH}  {y1 : Int}  (K : (y1 < 0 → (y1 < 0 → Q (some (vI 0)) h) ∧ (¬(y1 < 0) → (0 ≤ y1 ∧ y1 < 400) ∧ (25 ≤ (gi h 13 y1) ∧ (gi h 13 y1) ≤ 27 → Q (some (vI 1)) h) ∧ (¬(25 ≤ (gi h 13 y1) ∧ (gi h 13 y1) ≤ 27) → Q (some (vI 0)) h))) ∧ (¬(y1 < 0) → (0 ≤ y1 ∧ y1 < 400) ∧ (20 ≤ (gi h 13 y1) ∧ (gi h 13 y1) ≤ 24 → R32 (y1 + (-1)) ∧ Lp_X8_isCompared_7 d b Q (y1 + (-1)) h) ∧ (¬(20 ≤ (gi h 13 y1) ∧ (gi h 13 y1) ≤ 24) → (y1 < 0 → Q (some (vI 0)) h) ∧ (¬(y1 < 0) → (0 ≤ y1 ∧ y1 < 400) ∧ (25 ≤ (gi h 13 y1) ∧ (gi h 13 y1) ≤ 27 → Q (some (vI 1)) h) ∧ (¬(25 ≤ (gi h 13 y1) ∧ (gi h 13 y1) ≤ 27) → Q (some (vI 0)) h))))) : Lp_X8_isCompared_7 d b Q y1 h := by
  unfold Lp_X8_isCompared_7
  refine J_iload_n rfl dX8_isCompared_7 ?_
  refine J_if_lt (tgt := 36) dX8_isCompared_8 (by decide) (fun c => ?_) (fun c => ?_)
  · replace K := K.1 c
    refine J_iload_n rfl dX8_isCompared_36 ?_
    refine J_if_lt (tgt := 63) dX8_isCompared_37 (by decide) (fun c => ?_) (fun c => ?_)
    · replace K := K.1 c
      refine J_iconst (by decide) dX8_isCompared_63 ?_
      exact J_zreturn ⟨rfl, by decide⟩ dX8_isCompared_64 K
    · replace K := K.2 c
      refine J_aload_n rfl dX8_isCompared_40 ?_
      refine J_getS (r := 13) fl_RX8_51 rfl (Or.inl rfl) rfl dX8_isCompared_41 ?_
      refine J_iload_n rfl dX8_isCompared_44 ?_
      refine J_iaload (Or.inl rfl) K.1 dX8_isCompared_45 ?_
      replace K := K.2
      refine J_i2l dX8_isCompared_46 ?_
      refine J_ldc2 (n := 25) (by decide) (by decide) kc_RX8_304 dX8_isCompared_47 ?_
      refine J_ldc2 (n := 27) (by decide) (by decide) kc_RX8_306 dX8_isCompared_50 ?_
      refine J_b0 (J_callS (b1 := 0) (vs := [vL (gi h 13 y1), vL 25, vL 27]) (rest := []) (Or.inl rfl) ml_RX8_181 rfl (by decide) (Nat.le_of_ble_eq_true rfl) rfl dX8_isCompared_53 (c_X8_in   ?_))
      show J _ _ _ _ _ _ _ [vI (b2i (25 ≤ (gi h 13 y1) ∧ (gi h 13 y1) ≤ 27))] _
      refine J_if_eq (tgt := 63) dX8_isCompared_56 (by decide) (fun c => ?_) (fun c => ?_)
      · replace K := K.2 (b2i_0.mp c)
        refine J_iconst (by decide) dX8_isCompared_63 ?_
        exact J_zreturn ⟨rfl, by decide⟩ dX8_isCompared_64 K
      · replace K := K.1 (b2i_n0.mp c)
        refine J_iconst (by decide) dX8_isCompared_59 ?_
        refine J_goto (tgt := 64) dX8_isCompared_60 (by decide) ?_
        exact J_zreturn ⟨rfl, by decide⟩ dX8_isCompared_64 K
  · replace K := K.2 c
    refine J_aload_n rfl dX8_isCompared_11 ?_
    refine J_getS (r := 13) fl_RX8_51 rfl (Or.inl rfl) rfl dX8_isCompared_12 ?_
    refine J_iload_n rfl dX8_isCompared_15 ?_
    refine J_iaload (Or.inl rfl) K.1 dX8_isCompared_16 ?_
    replace K := K.2
    refine J_i2l dX8_isCompared_17 ?_
    refine J_ldc2 (n := 20) (by decide) (by decide) kc_RX8_302 dX8_isCompared_18 ?_
    refine J_ldc2 (n := 24) (by decide) (by decide) kc_RX8_188 dX8_isCompared_21 ?_
    refine J_b0 (J_callS (b1 := 0) (vs := [vL (gi h 13 y1), vL 20, vL 24]) (rest := []) (Or.inl rfl) ml_RX8_181 rfl (by decide) (Nat.le_of_ble_eq_true rfl) rfl dX8_isCompared_24 (c_X8_in   ?_))
    show J _ _ _ _ _ _ _ [vI (b2i (20 ≤ (gi h 13 y1) ∧ (gi h 13 y1) ≤ 24))] _
    refine J_if_eq (tgt := 36) dX8_isCompared_27 (by decide) (fun c => ?_) (fun c => ?_)
    · replace K := K.2 (b2i_0.mp c)
      refine J_iload_n rfl dX8_isCompared_36 ?_
      refine J_if_lt (tgt := 63) dX8_isCompared_37 (by decide) (fun c => ?_) (fun c => ?_)
      · replace K := K.1 c
        refine J_iconst (by decide) dX8_isCompared_63 ?_
        exact J_zreturn ⟨rfl, by decide⟩ dX8_isCompared_64 K
      · replace K := K.2 c
        refine J_aload_n rfl dX8_isCompared_40 ?_
        refine J_getS (r := 13) fl_RX8_51 rfl (Or.inl rfl) rfl dX8_isCompared_41 ?_
        refine J_iload_n rfl dX8_isCompared_44 ?_
        refine J_iaload (Or.inl rfl) K.1 dX8_isCompared_45 ?_
        replace K := K.2
        refine J_i2l dX8_isCompared_46 ?_
        refine J_ldc2 (n := 25) (by decide) (by decide) kc_RX8_304 dX8_isCompared_47 ?_
        refine J_ldc2 (n := 27) (by decide) (by decide) kc_RX8_306 dX8_isCompared_50 ?_
        refine J_b0 (J_callS (b1 := 0) (vs := [vL (gi h 13 y1), vL 25, vL 27]) (rest := []) (Or.inl rfl) ml_RX8_181 rfl (by decide) (Nat.le_of_ble_eq_true rfl) rfl dX8_isCompared_53 (c_X8_in   ?_))
        show J _ _ _ _ _ _ _ [vI (b2i (25 ≤ (gi h 13 y1) ∧ (gi h 13 y1) ≤ 27))] _
        refine J_if_eq (tgt := 63) dX8_isCompared_56 (by decide) (fun c => ?_) (fun c => ?_)
        · replace K := K.2 (b2i_0.mp c)
          refine J_iconst (by decide) dX8_isCompared_63 ?_
          exact J_zreturn ⟨rfl, by decide⟩ dX8_isCompared_64 K
        · replace K := K.1 (b2i_n0.mp c)
          refine J_iconst (by decide) dX8_isCompared_59 ?_
          refine J_goto (tgt := 64) dX8_isCompared_60 (by decide) ?_
          exact J_zreturn ⟨rfl, by decide⟩ dX8_isCompared_64 K
    · replace K := K.1 (b2i_n0.mp c)
      refine J_iinc (loc' := [some (vR (some 0)), some (vI (y1 + (-1)))]) (by decide) rfl K.1 rfl dX8_isCompared_30 ?_
      replace K := K.2
      refine J_goto (tgt := 7) dX8_isCompared_33 (by decide) ?_
      exact J_forget (loc' := [some (vR (some 0)), some (vI (y1 + (-1)))]) (And.intro (Or.inr rfl) (And.intro (Or.inr rfl) True.intro)) K
set_option maxRecDepth 20000 in
set_option maxHeartbeats 2000000 in
theorem w_X8_isCompared {d b : Nat} {Q : Option AV → AH → Prop} {h : AH}   (K : R32 ((gi h 0 29) - 1) ∧ Lp_X8_isCompared_7 d b Q ((gi h 0 29) - 1) h) : WM GM (d + 1) b mX8_isCompared [vR (some 0)] h Q := by
  refine WM_introE (loc' := [some (vR (some 0)), none]) rfl (by decide) (Nat.le_of_ble_eq_true rfl) ?_
  refine J_aload_n rfl dX8_isCompared_0 ?_
  refine J_getI fl_RX8_292 rfl (Or.inl rfl) dX8_isCompared_1 ?_
  refine J_iconst (by decide) dX8_isCompared_4 ?_
  refine J_isub K.1 dX8_isCompared_5 ?_
  replace K := K.2
  refine J_istore_n (loc' := [some (vR (some 0)), some (vI ((gi h 0 29) - 1))]) (by decide) rfl dX8_isCompared_6 ?_
  exact J_forget (loc' := [some (vR (some 0)), some (vI ((gi h 0 29) - 1))]) (And.intro (Or.inr rfl) (And.intro (Or.inr rfl) True.intro)) K
