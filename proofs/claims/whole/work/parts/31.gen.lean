def Lp_X7_heard_24 (d b : Nat) (Q : Option AV → AH → Prop)  (y1 : Int) (y2 : Int) (y3 : Int) (y4 : Int) (h : AH) : Prop := J GX (d + 1) b mX7_heard Q 24 [some (vR (some 0)), some (vI y1), some (vI y2), some (vI y3), some (vI y4)] [] h
set_option maxRecDepth 20000 in
set_option maxHeartbeats 2000000 in
theorem l_X7_heard_24 {d b : Nat} {Q : Option AV → AH → Prop} {h : AH}  {y1 : Int} {y2 : Int} {y3 : Int} {y4 : Int}  (K : (gi h 1 2 ≤ y4 → Q (some (vI y3)) h) ∧ (¬(gi h 1 2 ≤ y4) → (0 ≤ y4 ∧ y4 < 8) ∧ ((0 : Int) ≤ (zxor (gi h 6 y4) y1) ∧ ((zxor (gi h 6 y4) y1) : Int) < 33554432) ∧ (y2 < pcI (zxor (gi h 6 y4) y1) → R32 (y4 + 1) ∧ Lp_X7_heard_24 d b Q y1 y2 y3 (y4 + 1) h) ∧ (¬(y2 < pcI (zxor (gi h 6 y4) y1)) → R32 (y4 + 1) ∧ Lp_X7_heard_24 d b Q y1 y2 (zor y3 (zshl 1 y4)) (y4 + 1) h))) : Lp_X7_heard_24 d b Q y1 y2 y3 y4 h := by
  unfold Lp_X7_heard_24
  refine J_iload rfl dX7_heard_24 ?_
  refine J_aload_n rfl dX7_heard_26 ?_
  refine J_getS (r := 1) fl_RX7_10 rfl (Or.inl rfl) rfl dX7_heard_27 ?_
  refine J_getI fl_RX7_111 rfl (Or.inl rfl) dX7_heard_30 ?_
  refine J_icmp_ge (tgt := 68) dX7_heard_33 (by decide) (fun c => ?_) (fun c => ?_)
  · replace K := K.1 c
    refine J_iload_n rfl dX7_heard_68 ?_
    exact J_ireturn rfl dX7_heard_69 K
  · replace K := K.2 c
    refine J_aload_n rfl dX7_heard_36 ?_
    refine J_getS (r := 1) fl_RX7_10 rfl (Or.inl rfl) rfl dX7_heard_37 ?_
    refine J_getS (r := 6) fl_RX7_123 rfl (Or.inl rfl) rfl dX7_heard_40 ?_
    refine J_iload rfl dX7_heard_43 ?_
    refine J_iaload (Or.inl rfl) K.1 dX7_heard_45 ?_
    replace K := K.2
    refine J_iload_n rfl dX7_heard_46 ?_
    refine J_ixor dX7_heard_47 ?_
    refine J_b0 (J_callS (b1 := 0) (vs := [vI (zxor (gi h 6 y4) y1)]) (rest := []) (Or.inl rfl) ml_RX7_244 rfl (by decide) (Nat.le_of_ble_eq_true rfl) rfl dX7_heard_48 (c_J6_bitCount  K.1 ?_))
    replace K := K.2
    show J _ _ _ _ _ _ _ [vI (pcI (zxor (gi h 6 y4) y1))] _
    refine J_iload_n rfl dX7_heard_51 ?_
    refine J_icmp_gt (tgt := 62) dX7_heard_52 (by decide) (fun c => ?_) (fun c => ?_)
    · replace K := K.1 c
      refine J_iinc (loc' := [some (vR (some 0)), some (vI y1), some (vI y2), some (vI y3), some (vI (y4 + 1))]) (by decide) rfl K.1 rfl dX7_heard_62 ?_
      replace K := K.2
      refine J_goto (tgt := 24) dX7_heard_65 (by decide) ?_
      exact J_forget (loc' := [some (vR (some 0)), some (vI y1), some (vI y2), some (vI y3), some (vI (y4 + 1))]) (And.intro (Or.inr rfl) (And.intro (Or.inr rfl) (And.intro (Or.inr rfl) (And.intro (Or.inr rfl) (And.intro (Or.inr rfl) True.intro))))) K
    · replace K := K.2 c
      refine J_iload_n rfl dX7_heard_55 ?_
      refine J_iconst (by decide) dX7_heard_56 ?_
      refine J_iload rfl dX7_heard_57 ?_
      refine J_ishl dX7_heard_59 ?_
      refine J_ior dX7_heard_60 ?_
      refine J_istore_n (loc' := [some (vR (some 0)), some (vI y1), some (vI y2), some (vI (zor y3 (zshl 1 y4))), some (vI y4)]) (by decide) rfl dX7_heard_61 ?_
      refine J_iinc (loc' := [some (vR (some 0)), some (vI y1), some (vI y2), some (vI (zor y3 (zshl 1 y4))), some (vI (y4 + 1))]) (by decide) rfl K.1 rfl dX7_heard_62 ?_
      replace K := K.2
      refine J_goto (tgt := 24) dX7_heard_65 (by decide) ?_
      exact J_forget (loc' := [some (vR (some 0)), some (vI y1), some (vI y2), some (vI (zor y3 (zshl 1 y4))), some (vI (y4 + 1))]) (And.intro (Or.inr rfl) (And.intro (Or.inr rfl) (And.intro (Or.inr rfl) (And.intro (Or.inr rfl) (And.intro (Or.inr rfl) True.intro))))) K
set_option maxRecDepth 20000 in
set_option maxHeartbeats 2000000 in
theorem w_X7_heard {d b : Nat} {Q : Option AV → AH → Prop} {h : AH} {x1 : Int} {x2 : Int}  (K : R32 x1 → R32 x2 → ((0 : Int) ≤ x1 ∧ (x1 : Int) < 64 → (x2 < 0 → Q (some (vI (-1))) h) ∧ (¬(x2 < 0) → (x2 ≤ 6 → Lp_X7_heard_24 d b Q x1 x2 0 0 h) ∧ (¬(x2 ≤ 6) → Q (some (vI (-1))) h))) ∧ (¬((0 : Int) ≤ x1 ∧ (x1 : Int) < 64) → Q (some (vI (-1))) h)) : WM GX (d + 1) b mX7_heard [vR (some 0), vI x1, vI x2] h Q := by
  refine WM_introE (loc' := [some (vR (some 0)), some (vI x1), some (vI x2), none, none]) rfl (by decide) (Nat.le_of_ble_eq_true rfl) ?_
  refine J_rgl (i := 1) rfl (fun r1 => ?_)
  replace K := K r1
  refine J_rgl (i := 2) rfl (fun r2 => ?_)
  replace K := K r2
  refine J_iload_n rfl dX7_heard_0 ?_
  refine J_b0 (J_callS (b1 := 0) (vs := [vI x1]) (rest := []) (Or.inl rfl) ml_RX7_101 rfl (by decide) (Nat.le_of_ble_eq_true rfl) rfl dX7_heard_1 (c_X7_isKnocks   ?_))
  show J _ _ _ _ _ _ _ [vI (b2i ((0 : Int) ≤ x1 ∧ (x1 : Int) < 64))] _
  refine J_if_eq (tgt := 17) dX7_heard_4 (by decide) (fun c => ?_) (fun c => ?_)
  · replace K := K.2 (b2i_0.mp c)
    refine J_iconst (by decide) dX7_heard_17 ?_
    exact J_ireturn rfl dX7_heard_18 K
  · replace K := K.1 (b2i_n0.mp c)
    refine J_iload_n rfl dX7_heard_7 ?_
    refine J_if_lt (tgt := 17) dX7_heard_8 (by decide) (fun c => ?_) (fun c => ?_)
    · replace K := K.1 c
      refine J_iconst (by decide) dX7_heard_17 ?_
      exact J_ireturn rfl dX7_heard_18 K
    · replace K := K.2 c
      refine J_iload_n rfl dX7_heard_11 ?_
      refine J_bipush (by decide) (by decide) dX7_heard_12 ?_
      refine J_icmp_le (tgt := 19) dX7_heard_14 (by decide) (fun c => ?_) (fun c => ?_)
      · replace K := K.1 c
        refine J_iconst (by decide) dX7_heard_19 ?_
        refine J_istore_n (loc' := [some (vR (some 0)), some (vI x1), some (vI x2), some (vI 0), none]) (by decide) rfl dX7_heard_20 ?_
        refine J_iconst (by decide) dX7_heard_21 ?_
        refine J_istore (loc' := [some (vR (some 0)), some (vI x1), some (vI x2), some (vI 0), some (vI 0)]) (by decide) rfl dX7_heard_22 ?_
        exact J_forget (loc' := [some (vR (some 0)), some (vI x1), some (vI x2), some (vI 0), some (vI 0)]) (And.intro (Or.inr rfl) (And.intro (Or.inr rfl) (And.intro (Or.inr rfl) (And.intro (Or.inr rfl) (And.intro (Or.inr rfl) True.intro))))) K
      · replace K := K.2 c
        refine J_iconst (by decide) dX7_heard_17 ?_
        exact J_ireturn rfl dX7_heard_18 K
def Lp_X8_heard_36 (d b : Nat) (Q : Option AV → AH → Prop)  (y1 : Int) (y2 : Int) (y3 : Int) (y4 : Int) (h : AH) : Prop := J GM (d + 1) b mX8_heard Q 36 [some (vR (some 0)), some (vI y1), some (vI y2), some (vI y3), some (vI y4)] [] h
set_option maxRecDepth 20000 in
set_option maxHeartbeats 2000000 in
theorem l_X8_heard_36 {d b : Nat} {Q : Option AV → AH → Prop} {h : AH}  {y1 : Int} {y2 : Int} {y3 : Int} {y4 : Int}  (K : (gi h 2 1 ≤ y4 → Q (some (vI y3)) h) ∧ (¬(gi h 2 1 ≤ y4) → R32 (96 + y4) ∧ (0 ≤ 96 + y4 ∧ 96 + y4 < 5540) ∧ ((0 : Int) ≤ (zxor y1 (gi h 2 (96 + y4))) ∧ ((zxor y1 (gi h 2 (96 + y4))) : Int) < 33554432) ∧ (y2 < pcI (zxor y1 (gi h 2 (96 + y4))) → R32 (y4 + 1) ∧ Lp_X8_heard_36 d b Q y1 y2 (zor y3 0) (y4 + 1) h) ∧ (¬(y2 < pcI (zxor y1 (gi h 2 (96 + y4)))) → R32 (y4 + 1) ∧ Lp_X8_heard_36 d b Q y1 y2 (zor y3 (zshl 1 y4)) (y4 + 1) h))) : Lp_X8_heard_36 d b Q y1 y2 y3 y4 h := by
  unfold Lp_X8_heard_36
  refine J_iload rfl dX8_heard_36 ?_
  refine J_aload_n rfl dX8_heard_38 ?_
  refine J_getS (r := 2) fl_RX8_13 rfl (Or.inl rfl) rfl dX8_heard_39 ?_
  refine J_iconst (by decide) dX8_heard_42 ?_
  refine J_iaload (Or.inl rfl) (by decide) dX8_heard_43 ?_
  refine J_icmp_ge (tgt := 83) dX8_heard_44 (by decide) (fun c => ?_) (fun c => ?_)
  · replace K := K.1 c
    refine J_iload_n rfl dX8_heard_83 ?_
    exact J_ireturn rfl dX8_heard_84 K
  · replace K := K.2 c
    refine J_iload_n rfl dX8_heard_47 ?_
    refine J_iload_n rfl dX8_heard_48 ?_
    refine J_aload_n rfl dX8_heard_49 ?_
    refine J_getS (r := 2) fl_RX8_13 rfl (Or.inl rfl) rfl dX8_heard_50 ?_
    refine J_bipush (by decide) (by decide) dX8_heard_53 ?_
    refine J_iload rfl dX8_heard_55 ?_
    refine J_iadd K.1 dX8_heard_57 ?_
    replace K := K.2
    refine J_iaload (Or.inl rfl) K.1 dX8_heard_58 ?_
    replace K := K.2
    refine J_ixor dX8_heard_59 ?_
    refine J_b0 (J_callS (b1 := 0) (vs := [vI (zxor y1 (gi h 2 (96 + y4)))]) (rest := [vI y3]) (Or.inl rfl) ml_RX8_474 rfl (by decide) (Nat.le_of_ble_eq_true rfl) rfl dX8_heard_60 (c_X8_ones  K.1 ?_))
    replace K := K.2
    show J _ _ _ _ _ _ _ [vI (pcI (zxor y1 (gi h 2 (96 + y4)))), vI y3] _
    refine J_iload_n rfl dX8_heard_63 ?_
    refine J_icmp_gt (tgt := 74) dX8_heard_64 (by decide) (fun c => ?_) (fun c => ?_)
    · replace K := K.1 c
      refine J_iconst (by decide) dX8_heard_74 ?_
      refine J_ior dX8_heard_75 ?_
      refine J_istore_n (loc' := [some (vR (some 0)), some (vI y1), some (vI y2), some (vI (zor y3 0)), some (vI y4)]) (by decide) rfl dX8_heard_76 ?_
      refine J_iinc (loc' := [some (vR (some 0)), some (vI y1), some (vI y2), some (vI (zor y3 0)), some (vI (y4 + 1))]) (by decide) rfl K.1 rfl dX8_heard_77 ?_
      replace K := K.2
      refine J_goto (tgt := 36) dX8_heard_80 (by decide) ?_
      exact J_forget (loc' := [some (vR (some 0)), some (vI y1), some (vI y2), some (vI (zor y3 0)), some (vI (y4 + 1))]) (And.intro (Or.inr rfl) (And.intro (Or.inr rfl) (And.intro (Or.inr rfl) (And.intro (Or.inr rfl) (And.intro (Or.inr rfl) True.intro))))) K
    · replace K := K.2 c
      refine J_iconst (by decide) dX8_heard_67 ?_
      refine J_iload rfl dX8_heard_68 ?_
      refine J_ishl dX8_heard_70 ?_
      refine J_goto (tgt := 75) dX8_heard_71 (by decide) ?_
      refine J_ior dX8_heard_75 ?_
      refine J_istore_n (loc' := [some (vR (some 0)), some (vI y1), some (vI y2), some (vI (zor y3 (zshl 1 y4))), some (vI y4)]) (by decide) rfl dX8_heard_76 ?_
      refine J_iinc (loc' := [some (vR (some 0)), some (vI y1), some (vI y2), some (vI (zor y3 (zshl 1 y4))), some (vI (y4 + 1))]) (by decide) rfl K.1 rfl dX8_heard_77 ?_
      replace K := K.2
      refine J_goto (tgt := 36) dX8_heard_80 (by decide) ?_
      exact J_forget (loc' := [some (vR (some 0)), some (vI y1), some (vI y2), some (vI (zor y3 (zshl 1 y4))), some (vI (y4 + 1))]) (And.intro (Or.inr rfl) (And.intro (Or.inr rfl) (And.intro (Or.inr rfl) (And.intro (Or.inr rfl) (And.intro (Or.inr rfl) True.intro))))) K
set_option maxRecDepth 20000 in
set_option maxHeartbeats 2000000 in
theorem w_X8_heard {d b : Nat} {Q : Option AV → AH → Prop} {h : AH} {x1 : Int} {x2 : Int}  (K : R32 x1 → R32 x2 → ∀ h1, h1 = si h 0 0 0 → (0 ≤ x1 ∧ x1 ≤ 63 → (0 ≤ x2 ∧ x2 ≤ 6 → Lp_X8_heard_36 d b Q x1 x2 0 0 h1) ∧ (¬(0 ≤ x2 ∧ x2 ≤ 6) → Q (some (vI (-1))) h1)) ∧ (¬(0 ≤ x1 ∧ x1 ≤ 63) → Q (some (vI (-1))) h1)) : WM GM (d + 1) b mX8_heard [vR (some 0), vI x1, vI x2] h Q := by
  refine WM_introE (loc' := [some (vR (some 0)), some (vI x1), some (vI x2), none, none]) rfl (by decide) (Nat.le_of_ble_eq_true rfl) ?_
  refine J_rgl (i := 1) rfl (fun r1 => ?_)
  replace K := K r1
  refine J_rgl (i := 2) rfl (fun r2 => ?_)
  replace K := K r2
  refine J_aload_n rfl dX8_heard_0 ?_
  refine J_iconst (by decide) dX8_heard_1 ?_
  refine J_putI fl_RX8_161 rfl (Or.inl rfl) dX8_heard_2 ?_
  replace K := K _ rfl
  refine J_iload_n rfl dX8_heard_5 ?_
  refine J_i2l dX8_heard_6 ?_
  refine J_lconst (x := 0) (by decide) (by decide) dX8_heard_7 ?_
  refine J_ldc2 (n := 63) (by decide) (by decide) kc_RX8_194 dX8_heard_8 ?_
  refine J_b0 (J_callS (b1 := 0) (vs := [vL x1, vL 0, vL 63]) (rest := []) (Or.inl rfl) ml_RX8_181 rfl (by decide) (Nat.le_of_ble_eq_true rfl) rfl dX8_heard_11 (c_X8_in   ?_))
  show J _ _ _ _ _ _ _ [vI (b2i (0 ≤ x1 ∧ x1 ≤ 63))] _
  refine J_if_eq (tgt := 29) dX8_heard_14 (by decide) (fun c => ?_) (fun c => ?_)
  · replace K := K.2 (b2i_0.mp c)
    refine J_iconst (by decide) dX8_heard_29 ?_
    exact J_ireturn rfl dX8_heard_30 K
  · replace K := K.1 (b2i_n0.mp c)
    refine J_iload_n rfl dX8_heard_17 ?_
    refine J_i2l dX8_heard_18 ?_
    refine J_lconst (x := 0) (by decide) (by decide) dX8_heard_19 ?_
    refine J_ldc2 (n := 6) (by decide) (by decide) kc_RX8_491 dX8_heard_20 ?_
    refine J_b0 (J_callS (b1 := 0) (vs := [vL x2, vL 0, vL 6]) (rest := []) (Or.inl rfl) ml_RX8_181 rfl (by decide) (Nat.le_of_ble_eq_true rfl) rfl dX8_heard_23 (c_X8_in   ?_))
    show J _ _ _ _ _ _ _ [vI (b2i (0 ≤ x2 ∧ x2 ≤ 6))] _
    refine J_if_ne (tgt := 31) dX8_heard_26 (by decide) (fun c => ?_) (fun c => ?_)
    · replace K := K.1 (b2i_n0.mp c)
      refine J_iconst (by decide) dX8_heard_31 ?_
      refine J_istore_n (loc' := [some (vR (some 0)), some (vI x1), some (vI x2), some (vI 0), none]) (by decide) rfl dX8_heard_32 ?_
      refine J_iconst (by decide) dX8_heard_33 ?_
      refine J_istore (loc' := [some (vR (some 0)), some (vI x1), some (vI x2), some (vI 0), some (vI 0)]) (by decide) rfl dX8_heard_34 ?_
      exact J_forget (loc' := [some (vR (some 0)), some (vI x1), some (vI x2), some (vI 0), some (vI 0)]) (And.intro (Or.inr rfl) (And.intro (Or.inr rfl) (And.intro (Or.inr rfl) (And.intro (Or.inr rfl) (And.intro (Or.inr rfl) True.intro))))) K
    · replace K := K.2 (b2i_0.mp c)
      refine J_iconst (by decide) dX8_heard_29 ?_
      exact J_ireturn rfl dX8_heard_30 K
def Lp_X7_knock_25 (d b : Nat) (Q : Option AV → AH → Prop)  (y1 : Int) (y2 : Int) (y3 : Int) (y4 : Int) (h : AH) : Prop := J GX (d + 2) b mX7_knock Q 25 [some (vR (some 0)), some (vI y1), some (vI y2), some (vI y3), some (vI y4), none] [] h
set_option maxRecDepth 20000 in
set_option maxHeartbeats 2000000 in
theorem l_X7_knock_25 {d b : Nat} {Q : Option AV → AH → Prop} {h : AH}  {y1 : Int} {y2 : Int} {y3 : Int} {y4 : Int}  (K : (64 ≤ y4 → (y1 = 0 → Q (some (vI y2)) h) ∧ (¬(y1 = 0) → Q (some (vI y3)) h)) ∧ (¬(64 ≤ y4) → (0 ≤ gi h 1 2 ∧ gi h 1 2 ≤ 8) ∧ (∀ i : Int, 0 ≤ i → i < gi h 1 2 → 0 ≤ gi h 6 i ∧ gi h 6 i < 64) ∧ ((0 : Int) ≤ y4 ∧ (y4 : Int) < 64) ∧ (lun (gi h 6) y4 (gi h 1 2).toNat 0 6 ≤ y3 → R32 (y4 + 1) ∧ Lp_X7_knock_25 d b Q y1 y2 y3 (y4 + 1) h) ∧ (¬(lun (gi h 6) y4 (gi h 1 2).toNat 0 6 ≤ y3) → R32 (y4 + 1) ∧ Lp_X7_knock_25 d b Q y1 y4 (lun (gi h 6) y4 (gi h 1 2).toNat 0 6) (y4 + 1) h))) : Lp_X7_knock_25 d b Q y1 y2 y3 y4 h := by
  unfold Lp_X7_knock_25
  refine J_iload rfl dX7_knock_25 ?_
  refine J_bipush (by decide) (by decide) dX7_knock_27 ?_
  refine J_icmp_ge (tgt := 61) dX7_knock_29 (by decide) (fun c => ?_) (fun c => ?_)
  · replace K := K.1 c
    refine J_iload_n rfl dX7_knock_61 ?_
    refine J_if_ne (tgt := 69) dX7_knock_62 (by decide) (fun c => ?_) (fun c => ?_)
    · replace K := K.2 c
      refine J_iload_n rfl dX7_knock_69 ?_
      exact J_ireturn rfl dX7_knock_70 K
    · replace K := K.1 c
      refine J_iload_n rfl dX7_knock_65 ?_
      refine J_goto (tgt := 70) dX7_knock_66 (by decide) ?_
      exact J_ireturn rfl dX7_knock_70 K
  · replace K := K.2 c
    refine J_aload_n rfl dX7_knock_32 ?_
    refine J_getS (r := 1) fl_RX7_10 rfl (Or.inl rfl) rfl dX7_knock_33 ?_
    refine J_iload rfl dX7_knock_36 ?_
    refine J_b0 (J_callV (b1 := 0) (ci := 0) (vs := [vI y4]) (rest := []) (Or.inr rfl) ml_RX7_264 rfl (by decide) rfl rfl (Or.inl rfl) (Nat.le_of_ble_eq_true rfl) rfl dX7_knock_38 (c_X0_leastUnlike (by decide) K.1 K.2.1 K.2.2.1 ?_))
    replace K := K.2.2.2
    show J _ _ _ _ _ _ _ [vI (lun (gi h 6) y4 (gi h 1 2).toNat 0 6)] _
    refine J_istore (loc' := [some (vR (some 0)), some (vI y1), some (vI y2), some (vI y3), some (vI y4), some (vI (lun (gi h 6) y4 (gi h 1 2).toNat 0 6))]) (by decide) rfl dX7_knock_41 ?_
    refine J_iload rfl dX7_knock_43 ?_
    refine J_iload_n rfl dX7_knock_45 ?_
    refine J_icmp_le (tgt := 55) dX7_knock_46 (by decide) (fun c => ?_) (fun c => ?_)
    · replace K := K.1 c
      refine J_iinc (loc' := [some (vR (some 0)), some (vI y1), some (vI y2), some (vI y3), some (vI (y4 + 1)), some (vI (lun (gi h 6) y4 (gi h 1 2).toNat 0 6))]) (by decide) rfl K.1 rfl dX7_knock_55 ?_
      replace K := K.2
      refine J_goto (tgt := 25) dX7_knock_58 (by decide) ?_
      exact J_forget (loc' := [some (vR (some 0)), some (vI y1), some (vI y2), some (vI y3), some (vI (y4 + 1)), none]) (And.intro (Or.inr rfl) (And.intro (Or.inr rfl) (And.intro (Or.inr rfl) (And.intro (Or.inr rfl) (And.intro (Or.inr rfl) (And.intro (Or.inl rfl) True.intro)))))) K
    · replace K := K.2 c
      refine J_iload rfl dX7_knock_49 ?_
      refine J_istore_n (loc' := [some (vR (some 0)), some (vI y1), some (vI y4), some (vI y3), some (vI y4), some (vI (lun (gi h 6) y4 (gi h 1 2).toNat 0 6))]) (by decide) rfl dX7_knock_51 ?_
      refine J_iload rfl dX7_knock_52 ?_
      refine J_istore_n (loc' := [some (vR (some 0)), some (vI y1), some (vI y4), some (vI (lun (gi h 6) y4 (gi h 1 2).toNat 0 6)), some (vI y4), some (vI (lun (gi h 6) y4 (gi h 1 2).toNat 0 6))]) (by decide) rfl dX7_knock_54 ?_
      refine J_iinc (loc' := [some (vR (some 0)), some (vI y1), some (vI y4), some (vI (lun (gi h 6) y4 (gi h 1 2).toNat 0 6)), some (vI (y4 + 1)), some (vI (lun (gi h 6) y4 (gi h 1 2).toNat 0 6))]) (by decide) rfl K.1 rfl dX7_knock_55 ?_
      replace K := K.2
      refine J_goto (tgt := 25) dX7_knock_58 (by decide) ?_
      exact J_forget (loc' := [some (vR (some 0)), some (vI y1), some (vI y4), some (vI (lun (gi h 6) y4 (gi h 1 2).toNat 0 6)), some (vI (y4 + 1)), none]) (And.intro (Or.inr rfl) (And.intro (Or.inr rfl) (And.intro (Or.inr rfl) (And.intro (Or.inr rfl) (And.intro (Or.inr rfl) (And.intro (Or.inl rfl) True.intro)))))) K
set_option maxRecDepth 20000 in
set_option maxHeartbeats 2000000 in
theorem w_X7_knock {d b : Nat} {Q : Option AV → AH → Prop} {h : AH} {x1 : Int}  (K : R32 x1 → (x1 < 0 → Q (some (vI (-1))) h) ∧ (¬(x1 < 0) → (x1 ≤ 1 → (0 ≤ gi h 1 2 ∧ gi h 1 2 ≤ 8) ∧ (∀ i : Int, 0 ≤ i → i < gi h 1 2 → 0 ≤ gi h 6 i ∧ gi h 6 i < 64) ∧ ((0 : Int) ≤ 0 ∧ (0 : Int) < 64) ∧ Lp_X7_knock_25 d b Q x1 0 (lun (gi h 6) 0 (gi h 1 2).toNat 0 6) 1 h) ∧ (¬(x1 ≤ 1) → Q (some (vI (-1))) h))) : WM GX (d + 2) b mX7_knock [vR (some 0), vI x1] h Q := by
  refine WM_introE (loc' := [some (vR (some 0)), some (vI x1), none, none, none, none]) rfl (by decide) (Nat.le_of_ble_eq_true rfl) ?_
  refine J_rgl (i := 1) rfl (fun r1 => ?_)
  replace K := K r1
  refine J_iload_n rfl dX7_knock_0 ?_
  refine J_if_lt (tgt := 9) dX7_knock_1 (by decide) (fun c => ?_) (fun c => ?_)
  · replace K := K.1 c
    refine J_iconst (by decide) dX7_knock_9 ?_
    exact J_ireturn rfl dX7_knock_10 K
  · replace K := K.2 c
    refine J_iload_n rfl dX7_knock_4 ?_
    refine J_iconst (by decide) dX7_knock_5 ?_
    refine J_icmp_le (tgt := 11) dX7_knock_6 (by decide) (fun c => ?_) (fun c => ?_)
    · replace K := K.1 c
      refine J_iconst (by decide) dX7_knock_11 ?_
      refine J_istore_n (loc' := [some (vR (some 0)), some (vI x1), some (vI 0), none, none, none]) (by decide) rfl dX7_knock_12 ?_
      refine J_aload_n rfl dX7_knock_13 ?_
      refine J_getS (r := 1) fl_RX7_10 rfl (Or.inl rfl) rfl dX7_knock_14 ?_
      refine J_iconst (by decide) dX7_knock_17 ?_
      refine J_b0 (J_callV (b1 := 0) (ci := 0) (vs := [vI 0]) (rest := []) (Or.inr rfl) ml_RX7_264 rfl (by decide) rfl rfl (Or.inl rfl) (Nat.le_of_ble_eq_true rfl) rfl dX7_knock_18 (c_X0_leastUnlike (by decide) K.1 K.2.1 K.2.2.1 ?_))
      replace K := K.2.2.2
      show J _ _ _ _ _ _ _ [vI (lun (gi h 6) 0 (gi h 1 2).toNat 0 6)] _
      refine J_istore_n (loc' := [some (vR (some 0)), some (vI x1), some (vI 0), some (vI (lun (gi h 6) 0 (gi h 1 2).toNat 0 6)), none, none]) (by decide) rfl dX7_knock_21 ?_
      refine J_iconst (by decide) dX7_knock_22 ?_
      refine J_istore (loc' := [some (vR (some 0)), some (vI x1), some (vI 0), some (vI (lun (gi h 6) 0 (gi h 1 2).toNat 0 6)), some (vI 1), none]) (by decide) rfl dX7_knock_23 ?_
      exact J_forget (loc' := [some (vR (some 0)), some (vI x1), some (vI 0), some (vI (lun (gi h 6) 0 (gi h 1 2).toNat 0 6)), some (vI 1), none]) (And.intro (Or.inr rfl) (And.intro (Or.inr rfl) (And.intro (Or.inr rfl) (And.intro (Or.inr rfl) (And.intro (Or.inr rfl) (And.intro (Or.inl rfl) True.intro)))))) K
    · replace K := K.2 c
      refine J_iconst (by decide) dX7_knock_9 ?_
      exact J_ireturn rfl dX7_knock_10 K
def Lp_X8_knock_24 (d b : Nat) (Q : Option AV → AH → Prop)  (y1 : Int) (y2 : Int) (y3 : Int) (y4 : Int) (h : AH) : Prop := J GM (d + 1) b mX8_knock Q 24 [some (vR (some 0)), some (vI y1), some (vI y2), some (vI y3), some (vI y4), none, none, none] [] h
def Lp_X8_knock_38 (d b : Nat) (Q : Option AV → AH → Prop)  (y1 : Int) (y2 : Int) (y3 : Int) (y4 : Int) (y5 : Int) (y6 : Int) (h : AH) : Prop := J GM (d + 1) b mX8_knock Q 38 [some (vR (some 0)), some (vI y1), some (vI y2), some (vI y3), some (vI y4), some (vI y5), some (vI y6), none] [] h
set_option maxRecDepth 20000 in
set_option maxHeartbeats 2000000 in
theorem l_X8_knock_24 {d b : Nat} {Q : Option AV → AH → Prop} {h : AH}  {y1 : Int} {y2 : Int} {y3 : Int} {y4 : Int}  (K : (64 ≤ y4 → (y1 = 0 → Q (some (vI y3)) h) ∧ (¬(y1 = 0) → Q (some (vI y2)) h)) ∧ (¬(64 ≤ y4) → Lp_X8_knock_38 d b Q y1 y2 y3 y4 6 0 h)) : Lp_X8_knock_24 d b Q y1 y2 y3 y4 h := by
  unfold Lp_X8_knock_24
  refine J_iload rfl dX8_knock_24 ?_
  refine J_bipush (by decide) (by decide) dX8_knock_26 ?_
  refine J_icmp_ge (tgt := 121) dX8_knock_28 (by decide) (fun c => ?_) (fun c => ?_)
  · replace K := K.1 c
    refine J_iload_n rfl dX8_knock_121 ?_
    refine J_if_ne (tgt := 129) dX8_knock_122 (by decide) (fun c => ?_) (fun c => ?_)
    · replace K := K.2 c
      refine J_iload_n rfl dX8_knock_129 ?_
      exact J_ireturn rfl dX8_knock_130 K
    · replace K := K.1 c
      refine J_iload_n rfl dX8_knock_125 ?_
      refine J_goto (tgt := 130) dX8_knock_126 (by decide) ?_
      exact J_ireturn rfl dX8_knock_130 K
  · replace K := K.2 c
    refine J_bipush (by decide) (by decide) dX8_knock_31 ?_
    refine J_istore (loc' := [some (vR (some 0)), some (vI y1), some (vI y2), some (vI y3), some (vI y4), some (vI 6), none, none]) (by decide) rfl dX8_knock_33 ?_
    refine J_iconst (by decide) dX8_knock_35 ?_
    refine J_istore (loc' := [some (vR (some 0)), some (vI y1), some (vI y2), some (vI y3), some (vI y4), some (vI 6), some (vI 0), none]) (by decide) rfl dX8_knock_36 ?_
    exact J_forget (loc' := [some (vR (some 0)), some (vI y1), some (vI y2), some (vI y3), some (vI y4), some (vI 6), some (vI 0), none]) (And.intro (Or.inr rfl) (And.intro (Or.inr rfl) (And.intro (Or.inr rfl) (And.intro (Or.inr rfl) (And.intro (Or.inr rfl) (And.intro (Or.inr rfl) (And.intro (Or.inr rfl) (And.intro (Or.inl rfl) True.intro)))))))) K
set_option maxRecDepth 20000 in
set_option maxHeartbeats 2000000 in
theorem l_X8_knock_38 {d b : Nat} {Q : Option AV → AH → Prop} {h : AH}  {y1 : Int} {y2 : Int} {y3 : Int} {y4 : Int} {y5 : Int} {y6 : Int}  (K : (gi h 2 1 ≤ y6 → (y5 ≤ y2 → (y5 ≤ y2 → R32 (y4 + 1) ∧ Lp_X8_knock_24 d b Q y1 y2 y3 (y4 + 1) h) ∧ (¬(y5 ≤ y2) → R32 (y4 + 1) ∧ Lp_X8_knock_24 d b Q y1 y5 y3 (y4 + 1) h)) ∧ (¬(y5 ≤ y2) → (y5 ≤ y2 → R32 (y4 + 1) ∧ Lp_X8_knock_24 d b Q y1 y2 y4 (y4 + 1) h) ∧ (¬(y5 ≤ y2) → R32 (y4 + 1) ∧ Lp_X8_knock_24 d b Q y1 y5 y4 (y4 + 1) h))) ∧ (¬(gi h 2 1 ≤ y6) → R32 (96 + y6) ∧ (0 ≤ 96 + y6 ∧ 96 + y6 < 5540) ∧ ((0 : Int) ≤ (zxor y4 (gi h 2 (96 + y6))) ∧ ((zxor y4 (gi h 2 (96 + y6))) : Int) < 33554432) ∧ (y5 ≤ pcI (zxor y4 (gi h 2 (96 + y6))) → R32 (y6 + 1) ∧ Lp_X8_knock_38 d b Q y1 y2 y3 y4 y5 (y6 + 1) h) ∧ (¬(y5 ≤ pcI (zxor y4 (gi h 2 (96 + y6)))) → R32 (y6 + 1) ∧ Lp_X8_knock_38 d b Q y1 y2 y3 y4 (pcI (zxor y4 (gi h 2 (96 + y6)))) (y6 + 1) h))) : Lp_X8_knock_38 d b Q y1 y2 y3 y4 y5 y6 h := by
  unfold Lp_X8_knock_38
  refine J_iload rfl dX8_knock_38 ?_
  refine J_aload_n rfl dX8_knock_40 ?_
  refine J_getS (r := 2) fl_RX8_13 rfl (Or.inl rfl) rfl dX8_knock_41 ?_
  refine J_iconst (by decide) dX8_knock_44 ?_
  refine J_iaload (Or.inl rfl) (by decide) dX8_knock_45 ?_
  refine J_icmp_ge (tgt := 89) dX8_knock_46 (by decide) (fun c => ?_) (fun c => ?_)
  · replace K := K.1 c
    refine J_iload rfl dX8_knock_89 ?_
    refine J_iload_n rfl dX8_knock_91 ?_
    refine J_icmp_le (tgt := 100) dX8_knock_92 (by decide) (fun c => ?_) (fun c => ?_)
    · replace K := K.1 c
      refine J_iload_n rfl dX8_knock_100 ?_
      refine J_istore_n (loc' := [some (vR (some 0)), some (vI y1), some (vI y2), some (vI y3), some (vI y4), some (vI y5), some (vI y6), none]) (by decide) rfl dX8_knock_101 ?_
      refine J_iload rfl dX8_knock_102 ?_
      refine J_iload_n rfl dX8_knock_104 ?_
      refine J_icmp_le (tgt := 113) dX8_knock_105 (by decide) (fun c => ?_) (fun c => ?_)
      · replace K := K.1 c
        refine J_iload_n rfl dX8_knock_113 ?_
        refine J_istore_n (loc' := [some (vR (some 0)), some (vI y1), some (vI y2), some (vI y3), some (vI y4), some (vI y5), some (vI y6), none]) (by decide) rfl dX8_knock_114 ?_
        refine J_iinc (loc' := [some (vR (some 0)), some (vI y1), some (vI y2), some (vI y3), some (vI (y4 + 1)), some (vI y5), some (vI y6), none]) (by decide) rfl K.1 rfl dX8_knock_115 ?_
        replace K := K.2
        refine J_goto (tgt := 24) dX8_knock_118 (by decide) ?_
        exact J_forget (loc' := [some (vR (some 0)), some (vI y1), some (vI y2), some (vI y3), some (vI (y4 + 1)), none, none, none]) (And.intro (Or.inr rfl) (And.intro (Or.inr rfl) (And.intro (Or.inr rfl) (And.intro (Or.inr rfl) (And.intro (Or.inr rfl) (And.intro (Or.inl rfl) (And.intro (Or.inl rfl) (And.intro (Or.inl rfl) True.intro)))))))) K
      · replace K := K.2 c
        refine J_iload rfl dX8_knock_108 ?_
        refine J_goto (tgt := 114) dX8_knock_110 (by decide) ?_
        refine J_istore_n (loc' := [some (vR (some 0)), some (vI y1), some (vI y5), some (vI y3), some (vI y4), some (vI y5), some (vI y6), none]) (by decide) rfl dX8_knock_114 ?_
        refine J_iinc (loc' := [some (vR (some 0)), some (vI y1), some (vI y5), some (vI y3), some (vI (y4 + 1)), some (vI y5), some (vI y6), none]) (by decide) rfl K.1 rfl dX8_knock_115 ?_
        replace K := K.2
        refine J_goto (tgt := 24) dX8_knock_118 (by decide) ?_
        exact J_forget (loc' := [some (vR (some 0)), some (vI y1), some (vI y5), some (vI y3), some (vI (y4 + 1)), none, none, none]) (And.intro (Or.inr rfl) (And.intro (Or.inr rfl) (And.intro (Or.inr rfl) (And.intro (Or.inr rfl) (And.intro (Or.inr rfl) (And.intro (Or.inl rfl) (And.intro (Or.inl rfl) (And.intro (Or.inl rfl) True.intro)))))))) K
    · replace K := K.2 c
      refine J_iload rfl dX8_knock_95 ?_
      refine J_goto (tgt := 101) dX8_knock_97 (by decide) ?_
      refine J_istore_n (loc' := [some (vR (some 0)), some (vI y1), some (vI y2), some (vI y4), some (vI y4), some (vI y5), some (vI y6), none]) (by decide) rfl dX8_knock_101 ?_
      refine J_iload rfl dX8_knock_102 ?_
      refine J_iload_n rfl dX8_knock_104 ?_
      refine J_icmp_le (tgt := 113) dX8_knock_105 (by decide) (fun c => ?_) (fun c => ?_)
      · replace K := K.1 c
        refine J_iload_n rfl dX8_knock_113 ?_
        refine J_istore_n (loc' := [some (vR (some 0)), some (vI y1), some (vI y2), some (vI y4), some (vI y4), some (vI y5), some (vI y6), none]) (by decide) rfl dX8_knock_114 ?_
        refine J_iinc (loc' := [some (vR (some 0)), some (vI y1), some (vI y2), some (vI y4), some (vI (y4 + 1)), some (vI y5), some (vI y6), none]) (by decide) rfl K.1 rfl dX8_knock_115 ?_
        replace K := K.2
        refine J_goto (tgt := 24) dX8_knock_118 (by decide) ?_
        exact J_forget (loc' := [some (vR (some 0)), some (vI y1), some (vI y2), some (vI y4), some (vI (y4 + 1)), none, none, none]) (And.intro (Or.inr rfl) (And.intro (Or.inr rfl) (And.intro (Or.inr rfl) (And.intro (Or.inr rfl) (And.intro (Or.inr rfl) (And.intro (Or.inl rfl) (And.intro (Or.inl rfl) (And.intro (Or.inl rfl) True.intro)))))))) K
      · replace K := K.2 c
        refine J_iload rfl dX8_knock_108 ?_
        refine J_goto (tgt := 114) dX8_knock_110 (by decide) ?_
        refine J_istore_n (loc' := [some (vR (some 0)), some (vI y1), some (vI y5), some (vI y4), some (vI y4), some (vI y5), some (vI y6), none]) (by decide) rfl dX8_knock_114 ?_
        refine J_iinc (loc' := [some (vR (some 0)), some (vI y1), some (vI y5), some (vI y4), some (vI (y4 + 1)), some (vI y5), some (vI y6), none]) (by decide) rfl K.1 rfl dX8_knock_115 ?_
        replace K := K.2
        refine J_goto (tgt := 24) dX8_knock_118 (by decide) ?_
        exact J_forget (loc' := [some (vR (some 0)), some (vI y1), some (vI y5), some (vI y4), some (vI (y4 + 1)), none, none, none]) (And.intro (Or.inr rfl) (And.intro (Or.inr rfl) (And.intro (Or.inr rfl) (And.intro (Or.inr rfl) (And.intro (Or.inr rfl) (And.intro (Or.inl rfl) (And.intro (Or.inl rfl) (And.intro (Or.inl rfl) True.intro)))))))) K
  · replace K := K.2 c
    refine J_iload rfl dX8_knock_49 ?_
    refine J_aload_n rfl dX8_knock_51 ?_
    refine J_getS (r := 2) fl_RX8_13 rfl (Or.inl rfl) rfl dX8_knock_52 ?_
    refine J_bipush (by decide) (by decide) dX8_knock_55 ?_
    refine J_iload rfl dX8_knock_57 ?_
    refine J_iadd K.1 dX8_knock_59 ?_
    replace K := K.2
    refine J_iaload (Or.inl rfl) K.1 dX8_knock_60 ?_
    replace K := K.2
    refine J_ixor dX8_knock_61 ?_
    refine J_b0 (J_callS (b1 := 0) (vs := [vI (zxor y4 (gi h 2 (96 + y6)))]) (rest := []) (Or.inl rfl) ml_RX8_474 rfl (by decide) (Nat.le_of_ble_eq_true rfl) rfl dX8_knock_62 (c_X8_ones  K.1 ?_))
    replace K := K.2
    show J _ _ _ _ _ _ _ [vI (pcI (zxor y4 (gi h 2 (96 + y6))))] _
    refine J_istore (loc' := [some (vR (some 0)), some (vI y1), some (vI y2), some (vI y3), some (vI y4), some (vI y5), some (vI y6), some (vI (pcI (zxor y4 (gi h 2 (96 + y6)))))]) (by decide) rfl dX8_knock_65 ?_
    refine J_iload rfl dX8_knock_67 ?_
    refine J_iload rfl dX8_knock_69 ?_
    refine J_icmp_ge (tgt := 79) dX8_knock_71 (by decide) (fun c => ?_) (fun c => ?_)
    · replace K := K.1 c
      refine J_iload rfl dX8_knock_79 ?_
      refine J_istore (loc' := [some (vR (some 0)), some (vI y1), some (vI y2), some (vI y3), some (vI y4), some (vI y5), some (vI y6), some (vI (pcI (zxor y4 (gi h 2 (96 + y6)))))]) (by decide) rfl dX8_knock_81 ?_
      refine J_iinc (loc' := [some (vR (some 0)), some (vI y1), some (vI y2), some (vI y3), some (vI y4), some (vI y5), some (vI (y6 + 1)), some (vI (pcI (zxor y4 (gi h 2 (96 + y6)))))]) (by decide) rfl K.1 rfl dX8_knock_83 ?_
      replace K := K.2
      refine J_goto (tgt := 38) dX8_knock_86 (by decide) ?_
      exact J_forget (loc' := [some (vR (some 0)), some (vI y1), some (vI y2), some (vI y3), some (vI y4), some (vI y5), some (vI (y6 + 1)), none]) (And.intro (Or.inr rfl) (And.intro (Or.inr rfl) (And.intro (Or.inr rfl) (And.intro (Or.inr rfl) (And.intro (Or.inr rfl) (And.intro (Or.inr rfl) (And.intro (Or.inr rfl) (And.intro (Or.inl rfl) True.intro)))))))) K
    · replace K := K.2 c
      refine J_iload rfl dX8_knock_74 ?_
      refine J_goto (tgt := 81) dX8_knock_76 (by decide) ?_
      refine J_istore (loc' := [some (vR (some 0)), some (vI y1), some (vI y2), some (vI y3), some (vI y4), some (vI (pcI (zxor y4 (gi h 2 (96 + y6))))), some (vI y6), some (vI (pcI (zxor y4 (gi h 2 (96 + y6)))))]) (by decide) rfl dX8_knock_81 ?_
      refine J_iinc (loc' := [some (vR (some 0)), some (vI y1), some (vI y2), some (vI y3), some (vI y4), some (vI (pcI (zxor y4 (gi h 2 (96 + y6))))), some (vI (y6 + 1)), some (vI (pcI (zxor y4 (gi h 2 (96 + y6)))))]) (by decide) rfl K.1 rfl dX8_knock_83 ?_
      replace K := K.2
      refine J_goto (tgt := 38) dX8_knock_86 (by decide) ?_
      exact J_forget (loc' := [some (vR (some 0)), some (vI y1), some (vI y2), some (vI y3), some (vI y4), some (vI (pcI (zxor y4 (gi h 2 (96 + y6))))), some (vI (y6 + 1)), none]) (And.intro (Or.inr rfl) (And.intro (Or.inr rfl) (And.intro (Or.inr rfl) (And.intro (Or.inr rfl) (And.intro (Or.inr rfl) (And.intro (Or.inr rfl) (And.intro (Or.inr rfl) (And.intro (Or.inl rfl) True.intro)))))))) K
set_option maxRecDepth 20000 in
set_option maxHeartbeats 2000000 in
theorem w_X8_knock {d b : Nat} {Q : Option AV → AH → Prop} {h : AH} {x1 : Int}  (K : R32 x1 → ∀ h1, h1 = si h 0 0 0 → (0 ≤ x1 ∧ x1 ≤ 1 → Lp_X8_knock_24 d b Q x1 (-1) 0 0 h1) ∧ (¬(0 ≤ x1 ∧ x1 ≤ 1) → Q (some (vI (-1))) h1)) : WM GM (d + 1) b mX8_knock [vR (some 0), vI x1] h Q := by
  refine WM_introE (loc' := [some (vR (some 0)), some (vI x1), none, none, none, none, none, none]) rfl (by decide) (Nat.le_of_ble_eq_true rfl) ?_
  refine J_rgl (i := 1) rfl (fun r1 => ?_)
  replace K := K r1
  refine J_aload_n rfl dX8_knock_0 ?_
  refine J_iconst (by decide) dX8_knock_1 ?_
  refine J_putI fl_RX8_161 rfl (Or.inl rfl) dX8_knock_2 ?_
  replace K := K _ rfl
  refine J_iload_n rfl dX8_knock_5 ?_
  refine J_i2l dX8_knock_6 ?_
  refine J_lconst (x := 0) (by decide) (by decide) dX8_knock_7 ?_
  refine J_lconst (x := 1) (by decide) (by decide) dX8_knock_8 ?_
  refine J_b0 (J_callS (b1 := 0) (vs := [vL x1, vL 0, vL 1]) (rest := []) (Or.inl rfl) ml_RX8_181 rfl (by decide) (Nat.le_of_ble_eq_true rfl) rfl dX8_knock_9 (c_X8_in   ?_))
  show J _ _ _ _ _ _ _ [vI (b2i (0 ≤ x1 ∧ x1 ≤ 1))] _
  refine J_if_ne (tgt := 17) dX8_knock_12 (by decide) (fun c => ?_) (fun c => ?_)
  · replace K := K.1 (b2i_n0.mp c)
    refine J_iconst (by decide) dX8_knock_17 ?_
    refine J_istore_n (loc' := [some (vR (some 0)), some (vI x1), some (vI (-1)), none, none, none, none, none]) (by decide) rfl dX8_knock_18 ?_
    refine J_iconst (by decide) dX8_knock_19 ?_
    refine J_istore_n (loc' := [some (vR (some 0)), some (vI x1), some (vI (-1)), some (vI 0), none, none, none, none]) (by decide) rfl dX8_knock_20 ?_
    refine J_iconst (by decide) dX8_knock_21 ?_
    refine J_istore (loc' := [some (vR (some 0)), some (vI x1), some (vI (-1)), some (vI 0), some (vI 0), none, none, none]) (by decide) rfl dX8_knock_22 ?_
    exact J_forget (loc' := [some (vR (some 0)), some (vI x1), some (vI (-1)), some (vI 0), some (vI 0), none, none, none]) (And.intro (Or.inr rfl) (And.intro (Or.inr rfl) (And.intro (Or.inr rfl) (And.intro (Or.inr rfl) (And.intro (Or.inr rfl) (And.intro (Or.inl rfl) (And.intro (Or.inl rfl) (And.intro (Or.inl rfl) True.intro)))))))) K
  · replace K := K.2 (b2i_0.mp c)
    refine J_iconst (by decide) dX8_knock_15 ?_
    exact J_ireturn rfl dX8_knock_16 K
def Lp_X7_wreck_24 (d b : Nat) (Q : Option AV → AH → Prop)  (y1 : Int) (y2 : Int) (y3 : Int) (y4 : Int) (h : AH) : Prop := J GX (d + 2) b mX7_wreck Q 24 [some (vR (some 0)), some (vI y1), some (vI y2), some (vI y3), some (vI y4)] [] h
set_option maxRecDepth 20000 in
set_option maxHeartbeats 2000000 in
theorem l_X7_wreck_24 {d b : Nat} {Q : Option AV → AH → Prop} {h : AH}  {y1 : Int} {y2 : Int} {y3 : Int} {y4 : Int}  (K : (25 ≤ y4 → Q (some (vI y3)) h) ∧ (¬(25 ≤ y4) → ((-1 : Int) ≤ y4 ∧ (y4 : Int) < 25) ∧ ((0 : Int) ≤ y2 ∧ (y2 : Int) ≤ 1000) ∧ (drf (gi h 11) (Int.toNat y2) y4 = y1 → R32 (y4 + 1) ∧ Lp_X7_wreck_24 d b Q y1 y2 (zor y3 (zshl 1 y4)) (y4 + 1) h) ∧ (¬(drf (gi h 11) (Int.toNat y2) y4 = y1) → R32 (y4 + 1) ∧ Lp_X7_wreck_24 d b Q y1 y2 y3 (y4 + 1) h))) : Lp_X7_wreck_24 d b Q y1 y2 y3 y4 h := by
  unfold Lp_X7_wreck_24
  refine J_iload rfl dX7_wreck_24 ?_
  refine J_bipush (by decide) (by decide) dX7_wreck_26 ?_
  refine J_icmp_ge (tgt := 58) dX7_wreck_28 (by decide) (fun c => ?_) (fun c => ?_)
  · replace K := K.1 c
    refine J_iload_n rfl dX7_wreck_58 ?_
    exact J_ireturn rfl dX7_wreck_59 K
  · replace K := K.2 c
    refine J_aload_n rfl dX7_wreck_31 ?_
    refine J_getS (r := 1) fl_RX7_10 rfl (Or.inl rfl) rfl dX7_wreck_32 ?_
    refine J_iload rfl dX7_wreck_35 ?_
    refine J_iload_n rfl dX7_wreck_37 ?_
    refine J_b0 (J_callV (b1 := 0) (ci := 0) (vs := [vI y4, vI y2]) (rest := []) (Or.inr rfl) ml_RX7_267 rfl (by decide) rfl rfl (Or.inl rfl) (Nat.le_of_ble_eq_true rfl) rfl dX7_wreck_38 (c_X0_driftsTo (by decide) K.1 K.2.1 ?_))
    replace K := K.2.2
    show J _ _ _ _ _ _ _ [vI (drf (gi h 11) (Int.toNat y2) y4)] _
    refine J_iload_n rfl dX7_wreck_41 ?_
    refine J_icmp_ne (tgt := 52) dX7_wreck_42 (by decide) (fun c => ?_) (fun c => ?_)
    · replace K := K.2 c
      refine J_iinc (loc' := [some (vR (some 0)), some (vI y1), some (vI y2), some (vI y3), some (vI (y4 + 1))]) (by decide) rfl K.1 rfl dX7_wreck_52 ?_
      replace K := K.2
      refine J_goto (tgt := 24) dX7_wreck_55 (by decide) ?_
      exact J_forget (loc' := [some (vR (some 0)), some (vI y1), some (vI y2), some (vI y3), some (vI (y4 + 1))]) (And.intro (Or.inr rfl) (And.intro (Or.inr rfl) (And.intro (Or.inr rfl) (And.intro (Or.inr rfl) (And.intro (Or.inr rfl) True.intro))))) K
    · replace K := K.1 c
      refine J_iload_n rfl dX7_wreck_45 ?_
      refine J_iconst (by decide) dX7_wreck_46 ?_
      refine J_iload rfl dX7_wreck_47 ?_
      refine J_ishl dX7_wreck_49 ?_
      refine J_ior dX7_wreck_50 ?_
      refine J_istore_n (loc' := [some (vR (some 0)), some (vI y1), some (vI y2), some (vI (zor y3 (zshl 1 y4))), some (vI y4)]) (by decide) rfl dX7_wreck_51 ?_
      refine J_iinc (loc' := [some (vR (some 0)), some (vI y1), some (vI y2), some (vI (zor y3 (zshl 1 y4))), some (vI (y4 + 1))]) (by decide) rfl K.1 rfl dX7_wreck_52 ?_
      replace K := K.2
      refine J_goto (tgt := 24) dX7_wreck_55 (by decide) ?_
      exact J_forget (loc' := [some (vR (some 0)), some (vI y1), some (vI y2), some (vI (zor y3 (zshl 1 y4))), some (vI (y4 + 1))]) (And.intro (Or.inr rfl) (And.intro (Or.inr rfl) (And.intro (Or.inr rfl) (And.intro (Or.inr rfl) (And.intro (Or.inr rfl) True.intro))))) K
set_option maxRecDepth 20000 in
set_option maxHeartbeats 2000000 in
theorem w_X7_wreck {d b : Nat} {Q : Option AV → AH → Prop} {h : AH} {x1 : Int} {x2 : Int}  (K : R32 x1 → R32 x2 → ((0 : Int) ≤ x1 ∧ (x1 : Int) < 25 → (x2 < 0 → Q (some (vI (-1))) h) ∧ (¬(x2 < 0) → (x2 ≤ 99 → Lp_X7_wreck_24 d b Q x1 x2 0 0 h) ∧ (¬(x2 ≤ 99) → Q (some (vI (-1))) h))) ∧ (¬((0 : Int) ≤ x1 ∧ (x1 : Int) < 25) → Q (some (vI (-1))) h)) : WM GX (d + 2) b mX7_wreck [vR (some 0), vI x1, vI x2] h Q := by
  refine WM_introE (loc' := [some (vR (some 0)), some (vI x1), some (vI x2), none, none]) rfl (by decide) (Nat.le_of_ble_eq_true rfl) ?_
  refine J_rgl (i := 1) rfl (fun r1 => ?_)
  replace K := K r1
  refine J_rgl (i := 2) rfl (fun r2 => ?_)
  replace K := K r2
  refine J_iload_n rfl dX7_wreck_0 ?_
  refine J_b0 (J_callS (b1 := 0) (vs := [vI x1]) (rest := []) (Or.inl rfl) ml_RX7_152 rfl (by decide) (Nat.le_of_ble_eq_true rfl) rfl dX7_wreck_1 (c_X7_isCell   ?_))
  show J _ _ _ _ _ _ _ [vI (b2i ((0 : Int) ≤ x1 ∧ (x1 : Int) < 25))] _
  refine J_if_eq (tgt := 17) dX7_wreck_4 (by decide) (fun c => ?_) (fun c => ?_)
  · replace K := K.2 (b2i_0.mp c)
    refine J_iconst (by decide) dX7_wreck_17 ?_
    exact J_ireturn rfl dX7_wreck_18 K
  · replace K := K.1 (b2i_n0.mp c)
    refine J_iload_n rfl dX7_wreck_7 ?_
    refine J_if_lt (tgt := 17) dX7_wreck_8 (by decide) (fun c => ?_) (fun c => ?_)
    · replace K := K.1 c
      refine J_iconst (by decide) dX7_wreck_17 ?_
      exact J_ireturn rfl dX7_wreck_18 K
    · replace K := K.2 c
      refine J_iload_n rfl dX7_wreck_11 ?_
      refine J_bipush (by decide) (by decide) dX7_wreck_12 ?_
      refine J_icmp_le (tgt := 19) dX7_wreck_14 (by decide) (fun c => ?_) (fun c => ?_)
      · replace K := K.1 c
        refine J_iconst (by decide) dX7_wreck_19 ?_
        refine J_istore_n (loc' := [some (vR (some 0)), some (vI x1), some (vI x2), some (vI 0), none]) (by decide) rfl dX7_wreck_20 ?_
        refine J_iconst (by decide) dX7_wreck_21 ?_
        refine J_istore (loc' := [some (vR (some 0)), some (vI x1), some (vI x2), some (vI 0), some (vI 0)]) (by decide) rfl dX7_wreck_22 ?_
        exact J_forget (loc' := [some (vR (some 0)), some (vI x1), some (vI x2), some (vI 0), some (vI 0)]) (And.intro (Or.inr rfl) (And.intro (Or.inr rfl) (And.intro (Or.inr rfl) (And.intro (Or.inr rfl) (And.intro (Or.inr rfl) True.intro))))) K
      · replace K := K.2 c
        refine J_iconst (by decide) dX7_wreck_17 ?_
        exact J_ireturn rfl dX7_wreck_18 K
def Lp_X8_wreck_31 (d b : Nat) (Q : Option AV → AH → Prop)  (y1 : Int) (y2 : Int) (y3 : Int) (y4 : Int) (h : AH) : Prop := J GM (d + 2) b mX8_wreck Q 31 [some (vR (some 0)), some (vI y1), some (vI y2), some (vI y3), some (vI y4), none, none] [] h
def Lp_X8_wreck_45 (d b : Nat) (Q : Option AV → AH → Prop)  (y1 : Int) (y2 : Int) (y3 : Int) (y4 : Int) (y5 : Int) (y6 : Int) (h : AH) : Prop := J GM (d + 2) b mX8_wreck Q 45 [some (vR (some 0)), some (vI y1), some (vI y2), some (vI y3), some (vI y4), some (vI y5), some (vI y6)] [] h
set_option maxRecDepth 20000 in
set_option maxHeartbeats 2000000 in
theorem l_X8_wreck_31 {d b : Nat} {Q : Option AV → AH → Prop} {h : AH}  {y1 : Int} {y2 : Int} {y3 : Int} {y4 : Int}  (K : (25 ≤ y4 → Q (some (vI y3)) h) ∧ (¬(25 ≤ y4) → Lp_X8_wreck_45 d b Q y1 y2 y3 y4 y4 0 h)) : Lp_X8_wreck_31 d b Q y1 y2 y3 y4 h := by
  unfold Lp_X8_wreck_31
  refine J_iload rfl dX8_wreck_31 ?_
  refine J_bipush (by decide) (by decide) dX8_wreck_33 ?_
  refine J_icmp_ge (tgt := 103) dX8_wreck_35 (by decide) (fun c => ?_) (fun c => ?_)
  · replace K := K.1 c
    refine J_iload_n rfl dX8_wreck_103 ?_
    exact J_ireturn rfl dX8_wreck_104 K
  · replace K := K.2 c
    refine J_iload rfl dX8_wreck_38 ?_
    refine J_istore (loc' := [some (vR (some 0)), some (vI y1), some (vI y2), some (vI y3), some (vI y4), some (vI y4), none]) (by decide) rfl dX8_wreck_40 ?_
    refine J_iconst (by decide) dX8_wreck_42 ?_
    refine J_istore (loc' := [some (vR (some 0)), some (vI y1), some (vI y2), some (vI y3), some (vI y4), some (vI y4), some (vI 0)]) (by decide) rfl dX8_wreck_43 ?_
    exact J_forget (loc' := [some (vR (some 0)), some (vI y1), some (vI y2), some (vI y3), some (vI y4), some (vI y4), some (vI 0)]) (And.intro (Or.inr rfl) (And.intro (Or.inr rfl) (And.intro (Or.inr rfl) (And.intro (Or.inr rfl) (And.intro (Or.inr rfl) (And.intro (Or.inr rfl) (And.intro (Or.inr rfl) True.intro))))))) K
set_option maxRecDepth 20000 in
set_option maxHeartbeats 2000000 in
theorem l_X8_wreck_45 {d b : Nat} {Q : Option AV → AH → Prop} {h : AH}  {y1 : Int} {y2 : Int} {y3 : Int} {y4 : Int} {y5 : Int} {y6 : Int}  (K : (y2 ≤ y6 → (y5 = y1 → R32 (y4 + 1) ∧ Lp_X8_wreck_31 d b Q y1 y2 (zor y3 (zshl 1 y4)) (y4 + 1) h) ∧ (¬(y5 = y1) → R32 (y4 + 1) ∧ Lp_X8_wreck_31 d b Q y1 y2 (zor y3 0) (y4 + 1) h)) ∧ (¬(y2 ≤ y6) → (y5 = (-1) → (y5 = y1 → R32 (y4 + 1) ∧ Lp_X8_wreck_31 d b Q y1 y2 (zor y3 (zshl 1 y4)) (y4 + 1) h) ∧ (¬(y5 = y1) → R32 (y4 + 1) ∧ Lp_X8_wreck_31 d b Q y1 y2 (zor y3 0) (y4 + 1) h)) ∧ (¬(y5 = (-1)) → R32 (104 + y5) ∧ (0 ≤ 104 + y5 ∧ 104 + y5 < 5540) ∧ ((0 : Int) ≤ y5 ∧ (y5 : Int) < 25) ∧ R32 (y6 + 1) ∧ Lp_X8_wreck_45 d b Q y1 y2 y3 y4 (zbes y5 (gi h 2 (104 + y5))) (y6 + 1) h))) : Lp_X8_wreck_45 d b Q y1 y2 y3 y4 y5 y6 h := by
  unfold Lp_X8_wreck_45
  refine J_iload rfl dX8_wreck_45 ?_
  refine J_iload_n rfl dX8_wreck_47 ?_
  refine J_icmp_ge (tgt := 80) dX8_wreck_48 (by decide) (fun c => ?_) (fun c => ?_)
  · replace K := K.1 c
    refine J_iload_n rfl dX8_wreck_80 ?_
    refine J_iload rfl dX8_wreck_81 ?_
    refine J_iload_n rfl dX8_wreck_83 ?_
    refine J_icmp_ne (tgt := 94) dX8_wreck_84 (by decide) (fun c => ?_) (fun c => ?_)
    · replace K := K.2 c
      refine J_iconst (by decide) dX8_wreck_94 ?_
      refine J_ior dX8_wreck_95 ?_
      refine J_istore_n (loc' := [some (vR (some 0)), some (vI y1), some (vI y2), some (vI (zor y3 0)), some (vI y4), some (vI y5), some (vI y6)]) (by decide) rfl dX8_wreck_96 ?_
      refine J_iinc (loc' := [some (vR (some 0)), some (vI y1), some (vI y2), some (vI (zor y3 0)), some (vI (y4 + 1)), some (vI y5), some (vI y6)]) (by decide) rfl K.1 rfl dX8_wreck_97 ?_
      replace K := K.2
      refine J_goto (tgt := 31) dX8_wreck_100 (by decide) ?_
      exact J_forget (loc' := [some (vR (some 0)), some (vI y1), some (vI y2), some (vI (zor y3 0)), some (vI (y4 + 1)), none, none]) (And.intro (Or.inr rfl) (And.intro (Or.inr rfl) (And.intro (Or.inr rfl) (And.intro (Or.inr rfl) (And.intro (Or.inr rfl) (And.intro (Or.inl rfl) (And.intro (Or.inl rfl) True.intro))))))) K
    · replace K := K.1 c
      refine J_iconst (by decide) dX8_wreck_87 ?_
      refine J_iload rfl dX8_wreck_88 ?_
      refine J_ishl dX8_wreck_90 ?_
      refine J_goto (tgt := 95) dX8_wreck_91 (by decide) ?_
      refine J_ior dX8_wreck_95 ?_
      refine J_istore_n (loc' := [some (vR (some 0)), some (vI y1), some (vI y2), some (vI (zor y3 (zshl 1 y4))), some (vI y4), some (vI y5), some (vI y6)]) (by decide) rfl dX8_wreck_96 ?_
      refine J_iinc (loc' := [some (vR (some 0)), some (vI y1), some (vI y2), some (vI (zor y3 (zshl 1 y4))), some (vI (y4 + 1)), some (vI y5), some (vI y6)]) (by decide) rfl K.1 rfl dX8_wreck_97 ?_
      replace K := K.2
      refine J_goto (tgt := 31) dX8_wreck_100 (by decide) ?_
      exact J_forget (loc' := [some (vR (some 0)), some (vI y1), some (vI y2), some (vI (zor y3 (zshl 1 y4))), some (vI (y4 + 1)), none, none]) (And.intro (Or.inr rfl) (And.intro (Or.inr rfl) (And.intro (Or.inr rfl) (And.intro (Or.inr rfl) (And.intro (Or.inr rfl) (And.intro (Or.inl rfl) (And.intro (Or.inl rfl) True.intro))))))) K
  · replace K := K.2 c
    refine J_iload rfl dX8_wreck_51 ?_
    refine J_iconst (by decide) dX8_wreck_53 ?_
    refine J_icmp_eq (tgt := 80) dX8_wreck_54 (by decide) (fun c => ?_) (fun c => ?_)
    · replace K := K.1 c
      refine J_iload_n rfl dX8_wreck_80 ?_
      refine J_iload rfl dX8_wreck_81 ?_
      refine J_iload_n rfl dX8_wreck_83 ?_
      refine J_icmp_ne (tgt := 94) dX8_wreck_84 (by decide) (fun c => ?_) (fun c => ?_)
      · replace K := K.2 c
        refine J_iconst (by decide) dX8_wreck_94 ?_
        refine J_ior dX8_wreck_95 ?_
        refine J_istore_n (loc' := [some (vR (some 0)), some (vI y1), some (vI y2), some (vI (zor y3 0)), some (vI y4), some (vI y5), some (vI y6)]) (by decide) rfl dX8_wreck_96 ?_
        refine J_iinc (loc' := [some (vR (some 0)), some (vI y1), some (vI y2), some (vI (zor y3 0)), some (vI (y4 + 1)), some (vI y5), some (vI y6)]) (by decide) rfl K.1 rfl dX8_wreck_97 ?_
        replace K := K.2
        refine J_goto (tgt := 31) dX8_wreck_100 (by decide) ?_
        exact J_forget (loc' := [some (vR (some 0)), some (vI y1), some (vI y2), some (vI (zor y3 0)), some (vI (y4 + 1)), none, none]) (And.intro (Or.inr rfl) (And.intro (Or.inr rfl) (And.intro (Or.inr rfl) (And.intro (Or.inr rfl) (And.intro (Or.inr rfl) (And.intro (Or.inl rfl) (And.intro (Or.inl rfl) True.intro))))))) K
      · replace K := K.1 c
        refine J_iconst (by decide) dX8_wreck_87 ?_
        refine J_iload rfl dX8_wreck_88 ?_
        refine J_ishl dX8_wreck_90 ?_
        refine J_goto (tgt := 95) dX8_wreck_91 (by decide) ?_
        refine J_ior dX8_wreck_95 ?_
        refine J_istore_n (loc' := [some (vR (some 0)), some (vI y1), some (vI y2), some (vI (zor y3 (zshl 1 y4))), some (vI y4), some (vI y5), some (vI y6)]) (by decide) rfl dX8_wreck_96 ?_
        refine J_iinc (loc' := [some (vR (some 0)), some (vI y1), some (vI y2), some (vI (zor y3 (zshl 1 y4))), some (vI (y4 + 1)), some (vI y5), some (vI y6)]) (by decide) rfl K.1 rfl dX8_wreck_97 ?_
        replace K := K.2
        refine J_goto (tgt := 31) dX8_wreck_100 (by decide) ?_
        exact J_forget (loc' := [some (vR (some 0)), some (vI y1), some (vI y2), some (vI (zor y3 (zshl 1 y4))), some (vI (y4 + 1)), none, none]) (And.intro (Or.inr rfl) (And.intro (Or.inr rfl) (And.intro (Or.inr rfl) (And.intro (Or.inr rfl) (And.intro (Or.inr rfl) (And.intro (Or.inl rfl) (And.intro (Or.inl rfl) True.intro))))))) K
    · replace K := K.2 c
      refine J_iload rfl dX8_wreck_57 ?_
      refine J_aload_n rfl dX8_wreck_59 ?_
      refine J_getS (r := 2) fl_RX8_13 rfl (Or.inl rfl) rfl dX8_wreck_60 ?_
      refine J_bipush (by decide) (by decide) dX8_wreck_63 ?_
      refine J_iload rfl dX8_wreck_65 ?_
      refine J_iadd K.1 dX8_wreck_67 ?_
      replace K := K.2
      refine J_iaload (Or.inl rfl) K.1 dX8_wreck_68 ?_
      replace K := K.2
      refine J_b0 (J_callS (b1 := 0) (vs := [vI y5, vI (gi h 2 (104 + y5))]) (rest := []) (Or.inl rfl) ml_RX8_444 rfl (by decide) (Nat.le_of_ble_eq_true rfl) rfl dX8_wreck_69 (c_X8_cellBy  K.1 ?_))
      replace K := K.2
      show J _ _ _ _ _ _ _ [vI (zbes y5 (gi h 2 (104 + y5)))] _
      refine J_istore (loc' := [some (vR (some 0)), some (vI y1), some (vI y2), some (vI y3), some (vI y4), some (vI (zbes y5 (gi h 2 (104 + y5)))), some (vI y6)]) (by decide) rfl dX8_wreck_72 ?_
      refine J_iinc (loc' := [some (vR (some 0)), some (vI y1), some (vI y2), some (vI y3), some (vI y4), some (vI (zbes y5 (gi h 2 (104 + y5)))), some (vI (y6 + 1))]) (by decide) rfl K.1 rfl dX8_wreck_74 ?_
      replace K := K.2
      refine J_goto (tgt := 45) dX8_wreck_77 (by decide) ?_
      exact J_forget (loc' := [some (vR (some 0)), some (vI y1), some (vI y2), some (vI y3), some (vI y4), some (vI (zbes y5 (gi h 2 (104 + y5)))), some (vI (y6 + 1))]) (And.intro (Or.inr rfl) (And.intro (Or.inr rfl) (And.intro (Or.inr rfl) (And.intro (Or.inr rfl) (And.intro (Or.inr rfl) (And.intro (Or.inr rfl) (And.intro (Or.inr rfl) True.intro))))))) K
set_option maxRecDepth 20000 in
set_option maxHeartbeats 2000000 in
theorem w_X8_wreck {d b : Nat} {Q : Option AV → AH → Prop} {h : AH} {x1 : Int} {x2 : Int}  (K : R32 x1 → R32 x2 → ∀ h1, h1 = si h 0 0 0 → ((0 : Int) ≤ x1 ∧ (x1 : Int) < 25 → (0 ≤ x2 ∧ x2 ≤ 99 → Lp_X8_wreck_31 d b Q x1 x2 0 0 h1) ∧ (¬(0 ≤ x2 ∧ x2 ≤ 99) → Q (some (vI (-1))) h1)) ∧ (¬((0 : Int) ≤ x1 ∧ (x1 : Int) < 25) → Q (some (vI (-1))) h1)) : WM GM (d + 2) b mX8_wreck [vR (some 0), vI x1, vI x2] h Q := by
  refine WM_introE (loc' := [some (vR (some 0)), some (vI x1), some (vI x2), none, none, none, none]) rfl (by decide) (Nat.le_of_ble_eq_true rfl) ?_
  refine J_rgl (i := 1) rfl (fun r1 => ?_)
  replace K := K r1
  refine J_rgl (i := 2) rfl (fun r2 => ?_)
  replace K := K r2
  refine J_aload_n rfl dX8_wreck_0 ?_
  refine J_iconst (by decide) dX8_wreck_1 ?_
  refine J_putI fl_RX8_161 rfl (Or.inl rfl) dX8_wreck_2 ?_
  replace K := K _ rfl
  refine J_iload_n rfl dX8_wreck_5 ?_
  refine J_b0 (J_callS (b1 := 0) (vs := [vI x1]) (rest := []) (Or.inl rfl) ml_RX8_217 rfl (by decide) (Nat.le_of_ble_eq_true rfl) rfl dX8_wreck_6 (c_X8_isCell   ?_))
  show J _ _ _ _ _ _ _ [vI (b2i ((0 : Int) ≤ x1 ∧ (x1 : Int) < 25))] _
  refine J_if_eq (tgt := 24) dX8_wreck_9 (by decide) (fun c => ?_) (fun c => ?_)
  · replace K := K.2 (b2i_0.mp c)
    refine J_iconst (by decide) dX8_wreck_24 ?_
    exact J_ireturn rfl dX8_wreck_25 K
  · replace K := K.1 (b2i_n0.mp c)
    refine J_iload_n rfl dX8_wreck_12 ?_
    refine J_i2l dX8_wreck_13 ?_
    refine J_lconst (x := 0) (by decide) (by decide) dX8_wreck_14 ?_
    refine J_ldc2 (n := 99) (by decide) (by decide) kc_RX8_213 dX8_wreck_15 ?_
    refine J_b0 (J_callS (b1 := 0) (vs := [vL x2, vL 0, vL 99]) (rest := []) (Or.inl rfl) ml_RX8_181 rfl (by decide) (Nat.le_of_ble_eq_true rfl) rfl dX8_wreck_18 (c_X8_in   ?_))
    show J _ _ _ _ _ _ _ [vI (b2i (0 ≤ x2 ∧ x2 ≤ 99))] _
    refine J_if_ne (tgt := 26) dX8_wreck_21 (by decide) (fun c => ?_) (fun c => ?_)
    · replace K := K.1 (b2i_n0.mp c)
      refine J_iconst (by decide) dX8_wreck_26 ?_
      refine J_istore_n (loc' := [some (vR (some 0)), some (vI x1), some (vI x2), some (vI 0), none, none, none]) (by decide) rfl dX8_wreck_27 ?_
      refine J_iconst (by decide) dX8_wreck_28 ?_
      refine J_istore (loc' := [some (vR (some 0)), some (vI x1), some (vI x2), some (vI 0), some (vI 0), none, none]) (by decide) rfl dX8_wreck_29 ?_
      exact J_forget (loc' := [some (vR (some 0)), some (vI x1), some (vI x2), some (vI 0), some (vI 0), none, none]) (And.intro (Or.inr rfl) (And.intro (Or.inr rfl) (And.intro (Or.inr rfl) (And.intro (Or.inr rfl) (And.intro (Or.inr rfl) (And.intro (Or.inl rfl) (And.intro (Or.inl rfl) True.intro))))))) K
    · replace K := K.2 (b2i_0.mp c)
      refine J_iconst (by decide) dX8_wreck_24 ?_
      exact J_ireturn rfl dX8_wreck_25 K
def Lp_X7_afloat_56 (d b : Nat) (Q : Option AV → AH → Prop)  (y1 : Int) (y2 : Int) (y3 : Int) (y5 : Int) (y6 : Int) (h : AH) : Prop := J GX (d + 4) b mX7_afloat Q 56 [some (vR (some 0)), some (vI y1), some (vI y2), some (vL y3), none, some (vI y5), some (vI y6)] [] h
set_option maxRecDepth 20000 in
set_option maxHeartbeats 2000000 in
theorem l_X7_afloat_56 {d b : Nat} {Q : Option AV → AH → Prop} {h : AH}  {y1 : Int} {y2 : Int} {y3 : Int} {y5 : Int} {y6 : Int}  (K : (y2 ≤ y6 → Q (some (vL y3)) h) ∧ (¬(y2 ≤ y6) → WM GX (d + 3) 0 mX1_slamOf [vR (some 38), vR (some 1), vI y1, vI y5] h (fun r h1 => ∃ u1, r = some (vI u1) ∧ R32 (10 - u1) ∧ R64 (y3 * (10 - u1)) ∧ R64 (Int.tdiv (y3 * (10 - u1)) 10) ∧ ((-1 : Int) ≤ y5 ∧ (y5 : Int) < 25) ∧ ((0 : Int) ≤ 1 ∧ (1 : Int) ≤ 1000) ∧ (drf (gi h1 11) (Int.toNat 1) y5 = (-1) → Q (some (vL 0)) h1) ∧ (¬(drf (gi h1 11) (Int.toNat 1) y5 = (-1)) → R32 (y6 + 1) ∧ Lp_X7_afloat_56 d b Q y1 y2 (Int.tdiv (y3 * (10 - u1)) 10) (drf (gi h1 11) (Int.toNat 1) y5) (y6 + 1) h1)))) : Lp_X7_afloat_56 d b Q y1 y2 y3 y5 y6 h := by
  unfold Lp_X7_afloat_56
  refine J_iload rfl dX7_afloat_56 ?_
  refine J_iload_n rfl dX7_afloat_58 ?_
  refine J_icmp_ge (tgt := 113) dX7_afloat_59 (by decide) (fun c => ?_) (fun c => ?_)
  · replace K := K.1 c
    refine J_lload_n rfl dX7_afloat_113 ?_
    exact J_lreturn rfl dX7_afloat_114 K
  · replace K := K.2 c
    refine J_lload_n rfl dX7_afloat_62 ?_
    refine J_bipush (by decide) (by decide) dX7_afloat_63 ?_
    refine J_aload_n rfl dX7_afloat_65 ?_
    refine J_getS (r := 38) fl_RX7_50 rfl (Or.inl rfl) rfl dX7_afloat_66 ?_
    refine J_aload_n rfl dX7_afloat_69 ?_
    refine J_getS (r := 1) fl_RX7_10 rfl (Or.inl rfl) rfl dX7_afloat_70 ?_
    refine J_iload_n rfl dX7_afloat_73 ?_
    refine J_iload rfl dX7_afloat_74 ?_
    refine J_b0 (J_callV (b1 := 0) (ci := 1) (vs := [vR (some 1), vI y1, vI y5]) (rest := [vI 10, vL y3]) (Or.inr rfl) ml_RX7_165 rfl (by decide) rfl rfl (Or.inl rfl) (Nat.le_of_ble_eq_true rfl) rfl dX7_afloat_76 (WM_mono K (fun r h1 K => ?_)))
    obtain ⟨u1, rfl, K⟩ := K
    show J _ _ _ _ _ _ _ [vI u1, vI 10, vL y3] _
    refine J_isub K.1 dX7_afloat_79 ?_
    replace K := K.2
    refine J_i2l dX7_afloat_80 ?_
    refine J_lmul K.1 dX7_afloat_81 ?_
    replace K := K.2
    refine J_ldc2 (n := 10) (by decide) (by decide) kc_RX7_278 dX7_afloat_82 ?_
    refine J_ldiv (by decide) K.1 dX7_afloat_85 ?_
    replace K := K.2
    refine J_lstore_n (loc' := [some (vR (some 0)), some (vI y1), some (vI y2), some (vL (Int.tdiv (y3 * (10 - u1)) 10)), none, some (vI y5), some (vI y6)]) (by decide) rfl dX7_afloat_86 ?_
    refine J_aload_n rfl dX7_afloat_87 ?_
    refine J_getS (r := 1) fl_RX7_10 rfl (Or.inl rfl) rfl dX7_afloat_88 ?_
    refine J_iload rfl dX7_afloat_91 ?_
    refine J_iconst (by decide) dX7_afloat_93 ?_
    refine J_b0 (J_callV (b1 := 0) (ci := 0) (vs := [vI y5, vI 1]) (rest := []) (Or.inr rfl) ml_RX7_267 rfl (by decide) rfl rfl (Or.inl rfl) (Nat.le_of_ble_eq_true rfl) rfl dX7_afloat_94 (c_X0_driftsTo (by decide) K.1 K.2.1 ?_))
    replace K := K.2.2
    show J _ _ _ _ _ _ _ [vI _] _
    refine J_istore (loc' := [some (vR (some 0)), some (vI y1), some (vI y2), some (vL (Int.tdiv (y3 * (10 - u1)) 10)), none, some (vI _), some (vI y6)]) (by decide) rfl dX7_afloat_97 ?_
    refine J_iload rfl dX7_afloat_99 ?_
    refine J_iconst (by decide) dX7_afloat_101 ?_
    refine J_icmp_ne (tgt := 107) dX7_afloat_102 (by decide) (fun c => ?_) (fun c => ?_)
    · replace K := K.2 c
      refine J_iinc (loc' := [some (vR (some 0)), some (vI y1), some (vI y2), some (vL (Int.tdiv (y3 * (10 - u1)) 10)), none, some (vI _), some (vI (y6 + 1))]) (by decide) rfl K.1 rfl dX7_afloat_107 ?_
      replace K := K.2
      refine J_goto (tgt := 56) dX7_afloat_110 (by decide) ?_
      exact J_forget (loc' := [some (vR (some 0)), some (vI y1), some (vI y2), some (vL (Int.tdiv (y3 * (10 - u1)) 10)), none, some (vI _), some (vI (y6 + 1))]) (And.intro (Or.inr rfl) (And.intro (Or.inr rfl) (And.intro (Or.inr rfl) (And.intro (Or.inr rfl) (And.intro (Or.inl rfl) (And.intro (Or.inr rfl) (And.intro (Or.inr rfl) True.intro))))))) K
    · replace K := K.1 c
      refine J_lconst (x := 0) (by decide) (by decide) dX7_afloat_105 ?_
      exact J_lreturn rfl dX7_afloat_106 K
set_option maxRecDepth 20000 in
set_option maxHeartbeats 2000000 in
theorem w_X7_afloat {d b : Nat} {Q : Option AV → AH → Prop} {h : AH} {x1 : Int} {x2 : Int}  (K : R32 x1 → R32 x2 → ((0 : Int) ≤ x1 ∧ x1 < gi h 1 2 → (0 ≤ x1 ∧ x1 < 8) ∧ (gi h 8 x1 = (-1) → Q (some (vL (-1))) h) ∧ (¬(gi h 8 x1 = (-1)) → (x2 < 0 → Q (some (vL (-1))) h) ∧ (¬(x2 < 0) → (x2 ≤ 60 → (0 ≤ x1 ∧ x1 < 8) ∧ Lp_X7_afloat_56 d b Q x1 x2 1000000000000 (gi h 8 x1) 0 h) ∧ (¬(x2 ≤ 60) → Q (some (vL (-1))) h)))) ∧ (¬((0 : Int) ≤ x1 ∧ x1 < gi h 1 2) → Q (some (vL (-1))) h)) : WM GX (d + 4) b mX7_afloat [vR (some 0), vI x1, vI x2] h Q := by
  refine WM_introE (loc' := [some (vR (some 0)), some (vI x1), some (vI x2), none, none, none, none]) rfl (by decide) (Nat.le_of_ble_eq_true rfl) ?_
  refine J_rgl (i := 1) rfl (fun r1 => ?_)
  replace K := K r1
  refine J_rgl (i := 2) rfl (fun r2 => ?_)
  replace K := K r2
  refine J_aload_n rfl dX7_afloat_0 ?_
  refine J_getS (r := 1) fl_RX7_10 rfl (Or.inl rfl) rfl dX7_afloat_1 ?_
  refine J_iload_n rfl dX7_afloat_4 ?_
  refine J_b0 (J_callV (b1 := 0) (ci := 0) (vs := [vI x1]) (rest := []) (Or.inr rfl) ml_RX7_138 rfl (by decide) rfl rfl (Or.inl rfl) (Nat.le_of_ble_eq_true rfl) rfl dX7_afloat_5 (c_X0_isDoor (by decide)  ?_))
  show J _ _ _ _ _ _ _ [vI (b2i ((0 : Int) ≤ x1 ∧ x1 < gi h 1 2))] _
  refine J_if_eq (tgt := 34) dX7_afloat_8 (by decide) (fun c => ?_) (fun c => ?_)
  · replace K := K.2 (b2i_0.mp c)
    refine J_ldc2 (n := (-1)) (by decide) (by decide) kc_RX7_274 dX7_afloat_34 ?_
    exact J_lreturn rfl dX7_afloat_37 K
  · replace K := K.1 (b2i_n0.mp c)
    refine J_aload_n rfl dX7_afloat_11 ?_
    refine J_getS (r := 1) fl_RX7_10 rfl (Or.inl rfl) rfl dX7_afloat_12 ?_
    refine J_getS (r := 8) fl_RX7_129 rfl (Or.inl rfl) rfl dX7_afloat_15 ?_
    refine J_iload_n rfl dX7_afloat_18 ?_
    refine J_iaload (Or.inl rfl) K.1 dX7_afloat_19 ?_
    replace K := K.2
    refine J_iconst (by decide) dX7_afloat_20 ?_
    refine J_icmp_eq (tgt := 34) dX7_afloat_21 (by decide) (fun c => ?_) (fun c => ?_)
    · replace K := K.1 c
      refine J_ldc2 (n := (-1)) (by decide) (by decide) kc_RX7_274 dX7_afloat_34 ?_
      exact J_lreturn rfl dX7_afloat_37 K
    · replace K := K.2 c
      refine J_iload_n rfl dX7_afloat_24 ?_
      refine J_if_lt (tgt := 34) dX7_afloat_25 (by decide) (fun c => ?_) (fun c => ?_)
      · replace K := K.1 c
        refine J_ldc2 (n := (-1)) (by decide) (by decide) kc_RX7_274 dX7_afloat_34 ?_
        exact J_lreturn rfl dX7_afloat_37 K
      · replace K := K.2 c
        refine J_iload_n rfl dX7_afloat_28 ?_
        refine J_bipush (by decide) (by decide) dX7_afloat_29 ?_
        refine J_icmp_le (tgt := 38) dX7_afloat_31 (by decide) (fun c => ?_) (fun c => ?_)
        · replace K := K.1 c
          refine J_ldc2 (n := 1000000000000) (by decide) (by decide) kc_RX7_276 dX7_afloat_38 ?_
          refine J_lstore_n (loc' := [some (vR (some 0)), some (vI x1), some (vI x2), some (vL 1000000000000), none, none, none]) (by decide) rfl dX7_afloat_41 ?_
          refine J_aload_n rfl dX7_afloat_42 ?_
          refine J_getS (r := 1) fl_RX7_10 rfl (Or.inl rfl) rfl dX7_afloat_43 ?_
          refine J_getS (r := 8) fl_RX7_129 rfl (Or.inl rfl) rfl dX7_afloat_46 ?_
          refine J_iload_n rfl dX7_afloat_49 ?_
          refine J_iaload (Or.inl rfl) K.1 dX7_afloat_50 ?_
          replace K := K.2
          refine J_istore (loc' := [some (vR (some 0)), some (vI x1), some (vI x2), some (vL 1000000000000), none, some (vI (gi h 8 x1)), none]) (by decide) rfl dX7_afloat_51 ?_
          refine J_iconst (by decide) dX7_afloat_53 ?_
          refine J_istore (loc' := [some (vR (some 0)), some (vI x1), some (vI x2), some (vL 1000000000000), none, some (vI (gi h 8 x1)), some (vI 0)]) (by decide) rfl dX7_afloat_54 ?_
          exact J_forget (loc' := [some (vR (some 0)), some (vI x1), some (vI x2), some (vL 1000000000000), none, some (vI (gi h 8 x1)), some (vI 0)]) (And.intro (Or.inr rfl) (And.intro (Or.inr rfl) (And.intro (Or.inr rfl) (And.intro (Or.inr rfl) (And.intro (Or.inl rfl) (And.intro (Or.inr rfl) (And.intro (Or.inr rfl) True.intro))))))) K
        · replace K := K.2 c
          refine J_ldc2 (n := (-1)) (by decide) (by decide) kc_RX7_274 dX7_afloat_34 ?_
          exact J_lreturn rfl dX7_afloat_37 K
def Lp_X8_afloat_55 (d b : Nat) (Q : Option AV → AH → Prop)  (y1 : Int) (y2 : Int) (y3 : Int) (y5 : Int) (y6 : Int) (h : AH) : Prop := J GM (d + 6) b mX8_afloat Q 55 [some (vR (some 0)), some (vI y1), some (vI y2), some (vL y3), none, some (vI y5), some (vI y6)] [] h
set_option maxRecDepth 20000 in
set_option maxHeartbeats 2000000 in
theorem l_X8_afloat_55 {d b : Nat} {Q : Option AV → AH → Prop} {h : AH}  {y1 : Int} {y2 : Int} {y3 : Int} {y5 : Int} {y6 : Int}  (K : (y2 ≤ y6 → (y5 = (-1) → Q (some (vL 0)) h) ∧ (¬(y5 = (-1)) → Q (some (vL y3)) h)) ∧ (¬(y2 ≤ y6) → (y5 = (-1) → (y5 = (-1) → Q (some (vL 0)) h) ∧ (¬(y5 = (-1)) → Q (some (vL y3)) h)) ∧ (¬(y5 = (-1)) → WM GM (d + 5) 0 mX8_slams [vR (some 0), vI y1, vI y5] h (fun r h1 => ∃ u1, r = some (vI u1) ∧ R32 (10 - u1) ∧ R64 (y3 * (10 - u1)) ∧ R64 (Int.tdiv (y3 * (10 - u1)) 10) ∧ R32 (104 + y5) ∧ (0 ≤ 104 + y5 ∧ 104 + y5 < 5540) ∧ ((0 : Int) ≤ y5 ∧ (y5 : Int) < 25) ∧ R32 (y6 + 1) ∧ Lp_X8_afloat_55 d b Q y1 y2 (Int.tdiv (y3 * (10 - u1)) 10) (zbes y5 (gi h1 2 (104 + y5))) (y6 + 1) h1)))) : Lp_X8_afloat_55 d b Q y1 y2 y3 y5 y6 h := by
  unfold Lp_X8_afloat_55
  refine J_iload rfl dX8_afloat_55 ?_
  refine J_iload_n rfl dX8_afloat_57 ?_
  refine J_icmp_ge (tgt := 108) dX8_afloat_58 (by decide) (fun c => ?_) (fun c => ?_)
  · replace K := K.1 c
    refine J_iload rfl dX8_afloat_108 ?_
    refine J_iconst (by decide) dX8_afloat_110 ?_
    refine J_icmp_ne (tgt := 118) dX8_afloat_111 (by decide) (fun c => ?_) (fun c => ?_)
    · replace K := K.2 c
      refine J_lload_n rfl dX8_afloat_118 ?_
      exact J_lreturn rfl dX8_afloat_119 K
    · replace K := K.1 c
      refine J_lconst (x := 0) (by decide) (by decide) dX8_afloat_114 ?_
      refine J_goto (tgt := 119) dX8_afloat_115 (by decide) ?_
      exact J_lreturn rfl dX8_afloat_119 K
  · replace K := K.2 c
    refine J_iload rfl dX8_afloat_61 ?_
    refine J_iconst (by decide) dX8_afloat_63 ?_
    refine J_icmp_eq (tgt := 108) dX8_afloat_64 (by decide) (fun c => ?_) (fun c => ?_)
    · replace K := K.1 c
      refine J_iload rfl dX8_afloat_108 ?_
      refine J_iconst (by decide) dX8_afloat_110 ?_
      refine J_icmp_ne (tgt := 118) dX8_afloat_111 (by decide) (fun c => ?_) (fun c => ?_)
      · replace K := K.2 c
        refine J_lload_n rfl dX8_afloat_118 ?_
        exact J_lreturn rfl dX8_afloat_119 K
      · replace K := K.1 c
        refine J_lconst (x := 0) (by decide) (by decide) dX8_afloat_114 ?_
        refine J_goto (tgt := 119) dX8_afloat_115 (by decide) ?_
        exact J_lreturn rfl dX8_afloat_119 K
    · replace K := K.2 c
      refine J_lload_n rfl dX8_afloat_67 ?_
      refine J_bipush (by decide) (by decide) dX8_afloat_68 ?_
      refine J_aload_n rfl dX8_afloat_70 ?_
      refine J_iload_n rfl dX8_afloat_71 ?_
      refine J_iload rfl dX8_afloat_72 ?_
      refine J_b0 (J_callV (b1 := 0) (ci := 8) (vs := [vI y1, vI y5]) (rest := [vI 10, vL y3]) (Or.inl rfl) ml_RX8_233 rfl (by decide) rfl rfl (Or.inl rfl) (Nat.le_of_ble_eq_true rfl) rfl dX8_afloat_74 (WM_mono K (fun r h1 K => ?_)))
      obtain ⟨u1, rfl, K⟩ := K
      show J _ _ _ _ _ _ _ [vI u1, vI 10, vL y3] _
      refine J_isub K.1 dX8_afloat_77 ?_
      replace K := K.2
      refine J_i2l dX8_afloat_78 ?_
      refine J_lmul K.1 dX8_afloat_79 ?_
      replace K := K.2
      refine J_ldc2 (n := 10) (by decide) (by decide) kc_RX8_281 dX8_afloat_80 ?_
      refine J_ldiv (by decide) K.1 dX8_afloat_83 ?_
      replace K := K.2
      refine J_lstore_n (loc' := [some (vR (some 0)), some (vI y1), some (vI y2), some (vL (Int.tdiv (y3 * (10 - u1)) 10)), none, some (vI y5), some (vI y6)]) (by decide) rfl dX8_afloat_84 ?_
      refine J_iload rfl dX8_afloat_85 ?_
      refine J_aload_n rfl dX8_afloat_87 ?_
      refine J_getS (r := 2) fl_RX8_13 rfl (Or.inl rfl) rfl dX8_afloat_88 ?_
      refine J_bipush (by decide) (by decide) dX8_afloat_91 ?_
      refine J_iload rfl dX8_afloat_93 ?_
      refine J_iadd K.1 dX8_afloat_95 ?_
      replace K := K.2
      refine J_iaload (Or.inl rfl) K.1 dX8_afloat_96 ?_
      replace K := K.2
      refine J_b0 (J_callS (b1 := 0) (vs := [vI y5, vI _]) (rest := []) (Or.inl rfl) ml_RX8_444 rfl (by decide) (Nat.le_of_ble_eq_true rfl) rfl dX8_afloat_97 (c_X8_cellBy  K.1 ?_))
      replace K := K.2
      show J _ _ _ _ _ _ _ [vI _] _
      refine J_istore (loc' := [some (vR (some 0)), some (vI y1), some (vI y2), some (vL (Int.tdiv (y3 * (10 - u1)) 10)), none, some (vI _), some (vI y6)]) (by decide) rfl dX8_afloat_100 ?_
      refine J_iinc (loc' := [some (vR (some 0)), some (vI y1), some (vI y2), some (vL (Int.tdiv (y3 * (10 - u1)) 10)), none, some (vI _), some (vI (y6 + 1))]) (by decide) rfl K.1 rfl dX8_afloat_102 ?_
      replace K := K.2
      refine J_goto (tgt := 55) dX8_afloat_105 (by decide) ?_
      exact J_forget (loc' := [some (vR (some 0)), some (vI y1), some (vI y2), some (vL (Int.tdiv (y3 * (10 - u1)) 10)), none, some (vI _), some (vI (y6 + 1))]) (And.intro (Or.inr rfl) (And.intro (Or.inr rfl) (And.intro (Or.inr rfl) (And.intro (Or.inr rfl) (And.intro (Or.inl rfl) (And.intro (Or.inr rfl) (And.intro (Or.inr rfl) True.intro))))))) K
set_option maxRecDepth 20000 in
set_option maxHeartbeats 2000000 in
theorem w_X8_afloat {d b : Nat} {Q : Option AV → AH → Prop} {h : AH} {x1 : Int} {x2 : Int}  (K : R32 x1 → R32 x2 → ∀ h1, h1 = si h 0 0 0 → (0 ≤ gi h1 2 1 ∧ gi h1 2 1 ≤ 8) ∧ ((0 : Int) ≤ x1 ∧ x1 < gi h1 2 1 → ((0 : Int) ≤ x1 ∧ (x1 : Int) < 8) ∧ (gi h1 2 (15 + x1) ≠ -1 → (0 ≤ x2 ∧ x2 ≤ 60 → R32 (15 + x1) ∧ (0 ≤ 15 + x1 ∧ 15 + x1 < 5540) ∧ Lp_X8_afloat_55 d b Q x1 x2 1000000000000 (gi h 2 (15 + x1)) 0 h1) ∧ (¬(0 ≤ x2 ∧ x2 ≤ 60) → Q (some (vL (-1))) h1)) ∧ (¬(gi h1 2 (15 + x1) ≠ -1) → Q (some (vL (-1))) h1)) ∧ (¬((0 : Int) ≤ x1 ∧ x1 < gi h1 2 1) → Q (some (vL (-1))) h1)) : WM GM (d + 6) b mX8_afloat [vR (some 0), vI x1, vI x2] h Q := by
  refine WM_introE (loc' := [some (vR (some 0)), some (vI x1), some (vI x2), none, none, none, none]) rfl (by decide) (Nat.le_of_ble_eq_true rfl) ?_
  refine J_rgl (i := 1) rfl (fun r1 => ?_)
  replace K := K r1
  refine J_rgl (i := 2) rfl (fun r2 => ?_)
  replace K := K r2
  refine J_aload_n rfl dX8_afloat_0 ?_
  refine J_iconst (by decide) dX8_afloat_1 ?_
  refine J_putI fl_RX8_161 rfl (Or.inl rfl) dX8_afloat_2 ?_
  replace K := K _ rfl
  refine J_aload_n rfl dX8_afloat_5 ?_
  refine J_iload_n rfl dX8_afloat_6 ?_
  refine J_b0 (J_callV (b1 := 0) (ci := 8) (vs := [vI x1]) (rest := []) (Or.inl rfl) ml_RX8_203 rfl (by decide) rfl rfl (Or.inl rfl) (Nat.le_of_ble_eq_true rfl) rfl dX8_afloat_7 (c_X8_isDoor  K.1 ?_))
  replace K := K.2
  show J _ _ _ _ _ _ _ [vI _] _
  refine J_if_eq (tgt := 33) dX8_afloat_10 (by decide) (fun c => ?_) (fun c => ?_)
  · replace K := K.2 (b2i_0.mp c)
    refine J_ldc2 (n := (-1)) (by decide) (by decide) kc_RX8_277 dX8_afloat_33 ?_
    exact J_lreturn rfl dX8_afloat_36 K
  · replace K := K.1 (b2i_n0.mp c)
    refine J_aload_n rfl dX8_afloat_13 ?_
    refine J_iload_n rfl dX8_afloat_14 ?_
    refine J_b0 (J_callV (b1 := 0) (ci := 8) (vs := [vI x1]) (rest := []) (Or.inl rfl) ml_RX8_441 rfl (by decide) rfl rfl (Or.inl rfl) (Nat.le_of_ble_eq_true rfl) rfl dX8_afloat_15 (c_X8_isAtSea  K.1 ?_))
    replace K := K.2
    show J _ _ _ _ _ _ _ [vI _] _
    refine J_if_eq (tgt := 33) dX8_afloat_18 (by decide) (fun c => ?_) (fun c => ?_)
    · replace K := K.2 (b2i_0.mp c)
      refine J_ldc2 (n := (-1)) (by decide) (by decide) kc_RX8_277 dX8_afloat_33 ?_
      exact J_lreturn rfl dX8_afloat_36 K
    · replace K := K.1 (b2i_n0.mp c)
      refine J_iload_n rfl dX8_afloat_21 ?_
      refine J_i2l dX8_afloat_22 ?_
      refine J_lconst (x := 0) (by decide) (by decide) dX8_afloat_23 ?_
      refine J_ldc2 (n := 60) (by decide) (by decide) kc_RX8_507 dX8_afloat_24 ?_
      refine J_b0 (J_callS (b1 := 0) (vs := [vL x2, vL 0, vL 60]) (rest := []) (Or.inl rfl) ml_RX8_181 rfl (by decide) (Nat.le_of_ble_eq_true rfl) rfl dX8_afloat_27 (c_X8_in   ?_))
      show J _ _ _ _ _ _ _ [vI (b2i (0 ≤ x2 ∧ x2 ≤ 60))] _
      refine J_if_ne (tgt := 37) dX8_afloat_30 (by decide) (fun c => ?_) (fun c => ?_)
      · replace K := K.1 (b2i_n0.mp c)
        refine J_ldc2 (n := 1000000000000) (by decide) (by decide) kc_RX8_509 dX8_afloat_37 ?_
        refine J_lstore_n (loc' := [some (vR (some 0)), some (vI x1), some (vI x2), some (vL 1000000000000), none, none, none]) (by decide) rfl dX8_afloat_40 ?_
        refine J_aload_n rfl dX8_afloat_41 ?_
        refine J_getS (r := 2) fl_RX8_13 rfl (Or.inl rfl) rfl dX8_afloat_42 ?_
        refine J_bipush (by decide) (by decide) dX8_afloat_45 ?_
        refine J_iload_n rfl dX8_afloat_47 ?_
        refine J_iadd K.1 dX8_afloat_48 ?_
        replace K := K.2
        refine J_ialoade (Or.inl rfl) K.1 (gi_no (by decide)) dX8_afloat_49 ?_
        replace K := K.2
        refine J_istore (loc' := [some (vR (some 0)), some (vI x1), some (vI x2), some (vL 1000000000000), none, some (vI (gi h 2 (15 + x1))), none]) (by decide) rfl dX8_afloat_50 ?_
        refine J_iconst (by decide) dX8_afloat_52 ?_
        refine J_istore (loc' := [some (vR (some 0)), some (vI x1), some (vI x2), some (vL 1000000000000), none, some (vI (gi h 2 (15 + x1))), some (vI 0)]) (by decide) rfl dX8_afloat_53 ?_
        exact J_forget (loc' := [some (vR (some 0)), some (vI x1), some (vI x2), some (vL 1000000000000), none, some (vI (gi h 2 (15 + x1))), some (vI 0)]) (And.intro (Or.inr rfl) (And.intro (Or.inr rfl) (And.intro (Or.inr rfl) (And.intro (Or.inr rfl) (And.intro (Or.inl rfl) (And.intro (Or.inr rfl) (And.intro (Or.inr rfl) True.intro))))))) K
      · replace K := K.2 (b2i_0.mp c)
        refine J_ldc2 (n := (-1)) (by decide) (by decide) kc_RX8_277 dX8_afloat_33 ?_
        exact J_lreturn rfl dX8_afloat_36 K
def Lp_X7_guards_15 (d b : Nat) (Q : Option AV → AH → Prop)  (y1 : Int) (y2 : Int) (y3 : Int) (h : AH) : Prop := J GX (d + 1) b mX7_guards Q 15 [some (vR (some 0)), some (vI y1), some (vI y2), some (vI y3), none, none] [] h
def Lp_X7_guards_67 (d b : Nat) (Q : Option AV → AH → Prop)  (y1 : Int) (y2 : Int) (y3 : Int) (y4 : Int) (h : AH) : Prop := J GX (d + 1) b mX7_guards Q 67 [none, some (vI y1), some (vI y2), some (vI y3), some (vI y4), none] [] h
set_option maxRecDepth 20000 in
set_option maxHeartbeats 2000000 in
theorem l_X7_guards_15 {d b : Nat} {Q : Option AV → AH → Prop} {h : AH}  {y1 : Int} {y2 : Int} {y3 : Int}  (K : (gi h 1 0 ≤ y3 → R32 ((zshl 1 (gi h 1 0)) - 1) ∧ R32 (((zshl 1 (gi h 1 0)) - 1) - 1) ∧ Lp_X7_guards_67 d b Q y1 y2 ((zshl 1 (gi h 1 0)) - 1) (((zshl 1 (gi h 1 0)) - 1) - 1) h) ∧ (¬(gi h 1 0 ≤ y3) → (0 ≤ gi h 1 2 ∧ gi h 1 2 ≤ 8) ∧ (dIn (gi h 7) y3 (gi h 1 2).toNat 0 = (-1) → R32 (y3 + 1) ∧ Lp_X7_guards_15 d b Q y1 (zor y2 (zshl 1 y3)) (y3 + 1) h) ∧ (¬(dIn (gi h 7) y3 (gi h 1 2).toNat 0 = (-1)) → R32 (y3 + 1) ∧ Lp_X7_guards_15 d b Q y1 y2 (y3 + 1) h))) : Lp_X7_guards_15 d b Q y1 y2 y3 h := by
  unfold Lp_X7_guards_15
  refine J_iload_n rfl dX7_guards_15 ?_
  refine J_aload_n rfl dX7_guards_16 ?_
  refine J_getS (r := 1) fl_RX7_10 rfl (Or.inl rfl) rfl dX7_guards_17 ?_
  refine J_getI fl_RX7_92 rfl (Or.inl rfl) dX7_guards_20 ?_
  refine J_icmp_ge (tgt := 50) dX7_guards_23 (by decide) (fun c => ?_) (fun c => ?_)
  · replace K := K.1 c
    refine J_iconst (by decide) dX7_guards_50 ?_
    refine J_aload_n rfl dX7_guards_51 ?_
    refine J_getS (r := 1) fl_RX7_10 rfl (Or.inl rfl) rfl dX7_guards_52 ?_
    refine J_getI fl_RX7_92 rfl (Or.inl rfl) dX7_guards_55 ?_
    refine J_ishl dX7_guards_58 ?_
    refine J_iconst (by decide) dX7_guards_59 ?_
    refine J_isub K.1 dX7_guards_60 ?_
    replace K := K.2
    refine J_istore_n (loc' := [some (vR (some 0)), some (vI y1), some (vI y2), some (vI ((zshl 1 (gi h 1 0)) - 1)), none, none]) (by decide) rfl dX7_guards_61 ?_
    refine J_iload_n rfl dX7_guards_62 ?_
    refine J_iconst (by decide) dX7_guards_63 ?_
    refine J_isub K.1 dX7_guards_64 ?_
    replace K := K.2
    refine J_istore (loc' := [some (vR (some 0)), some (vI y1), some (vI y2), some (vI ((zshl 1 (gi h 1 0)) - 1)), some (vI (((zshl 1 (gi h 1 0)) - 1) - 1)), none]) (by decide) rfl dX7_guards_65 ?_
    exact J_forget (loc' := [none, some (vI y1), some (vI y2), some (vI ((zshl 1 (gi h 1 0)) - 1)), some (vI (((zshl 1 (gi h 1 0)) - 1) - 1)), none]) (And.intro (Or.inl rfl) (And.intro (Or.inr rfl) (And.intro (Or.inr rfl) (And.intro (Or.inr rfl) (And.intro (Or.inr rfl) (And.intro (Or.inl rfl) True.intro)))))) K
  · replace K := K.2 c
    refine J_aload_n rfl dX7_guards_26 ?_
    refine J_getS (r := 1) fl_RX7_10 rfl (Or.inl rfl) rfl dX7_guards_27 ?_
    refine J_iload_n rfl dX7_guards_30 ?_
    refine J_b0 (J_callV (b1 := 0) (ci := 0) (vs := [vI y3]) (rest := []) (Or.inr rfl) ml_RX7_108 rfl (by decide) rfl rfl (Or.inl rfl) (Nat.le_of_ble_eq_true rfl) rfl dX7_guards_31 (c_X0_doorIn (by decide) K.1 ?_))
    replace K := K.2
    show J _ _ _ _ _ _ _ [vI (dIn (gi h 7) y3 (gi h 1 2).toNat 0)] _
    refine J_iconst (by decide) dX7_guards_34 ?_
    refine J_icmp_ne (tgt := 44) dX7_guards_35 (by decide) (fun c => ?_) (fun c => ?_)
    · replace K := K.2 c
      refine J_iinc (loc' := [some (vR (some 0)), some (vI y1), some (vI y2), some (vI (y3 + 1)), none, none]) (by decide) rfl K.1 rfl dX7_guards_44 ?_
      replace K := K.2
      refine J_goto (tgt := 15) dX7_guards_47 (by decide) ?_
      exact J_forget (loc' := [some (vR (some 0)), some (vI y1), some (vI y2), some (vI (y3 + 1)), none, none]) (And.intro (Or.inr rfl) (And.intro (Or.inr rfl) (And.intro (Or.inr rfl) (And.intro (Or.inr rfl) (And.intro (Or.inl rfl) (And.intro (Or.inl rfl) True.intro)))))) K
    · replace K := K.1 c
      refine J_iload_n rfl dX7_guards_38 ?_
      refine J_iconst (by decide) dX7_guards_39 ?_
      refine J_iload_n rfl dX7_guards_40 ?_
      refine J_ishl dX7_guards_41 ?_
      refine J_ior dX7_guards_42 ?_
      refine J_istore_n (loc' := [some (vR (some 0)), some (vI y1), some (vI (zor y2 (zshl 1 y3))), some (vI y3), none, none]) (by decide) rfl dX7_guards_43 ?_
      refine J_iinc (loc' := [some (vR (some 0)), some (vI y1), some (vI (zor y2 (zshl 1 y3))), some (vI (y3 + 1)), none, none]) (by decide) rfl K.1 rfl dX7_guards_44 ?_
      replace K := K.2
      refine J_goto (tgt := 15) dX7_guards_47 (by decide) ?_
      exact J_forget (loc' := [some (vR (some 0)), some (vI y1), some (vI (zor y2 (zshl 1 y3))), some (vI (y3 + 1)), none, none]) (And.intro (Or.inr rfl) (And.intro (Or.inr rfl) (And.intro (Or.inr rfl) (And.intro (Or.inr rfl) (And.intro (Or.inl rfl) (And.intro (Or.inl rfl) True.intro)))))) K
set_option maxRecDepth 20000 in
set_option maxHeartbeats 2000000 in
theorem l_X7_guards_67 {d b : Nat} {Q : Option AV → AH → Prop} {h : AH}  {y1 : Int} {y2 : Int} {y3 : Int} {y4 : Int}  (K : (y4 < 0 → (y1 = 0 → ((0 : Int) ≤ y3 ∧ (y3 : Int) < 33554432) ∧ Q (some (vI (pcI y3))) h) ∧ (¬(y1 = 0) → Q (some (vI y3)) h)) ∧ (¬(y4 < 0) → (zand y2 (zxor (zor (zor y4 (zshl y4 1)) (zshr y4 1)) (-1)) = 0 → ((0 : Int) ≤ y4 ∧ (y4 : Int) < 33554432) ∧ ((0 : Int) ≤ y3 ∧ (y3 : Int) < 33554432) ∧ (pcI y3 < pcI y4 → R32 (y4 + (-1)) ∧ Lp_X7_guards_67 d b Q y1 y2 y3 (y4 + (-1)) h) ∧ (¬(pcI y3 < pcI y4) → R32 (y4 + (-1)) ∧ Lp_X7_guards_67 d b Q y1 y2 y4 (y4 + (-1)) h)) ∧ (¬(zand y2 (zxor (zor (zor y4 (zshl y4 1)) (zshr y4 1)) (-1)) = 0) → R32 (y4 + (-1)) ∧ Lp_X7_guards_67 d b Q y1 y2 y3 (y4 + (-1)) h))) : Lp_X7_guards_67 d b Q y1 y2 y3 y4 h := by
  unfold Lp_X7_guards_67
  refine J_iload rfl dX7_guards_67 ?_
  refine J_if_lt (tgt := 116) dX7_guards_69 (by decide) (fun c => ?_) (fun c => ?_)
  · replace K := K.1 c
    refine J_iload_n rfl dX7_guards_116 ?_
    refine J_if_ne (tgt := 127) dX7_guards_117 (by decide) (fun c => ?_) (fun c => ?_)
    · replace K := K.2 c
      refine J_iload_n rfl dX7_guards_127 ?_
      exact J_ireturn rfl dX7_guards_128 K
    · replace K := K.1 c
      refine J_iload_n rfl dX7_guards_120 ?_
      refine J_b0 (J_callS (b1 := 0) (vs := [vI y3]) (rest := []) (Or.inl rfl) ml_RX7_244 rfl (by decide) (Nat.le_of_ble_eq_true rfl) rfl dX7_guards_121 (c_J6_bitCount  K.1 ?_))
      replace K := K.2
      show J _ _ _ _ _ _ _ [vI (pcI y3)] _
      refine J_goto (tgt := 128) dX7_guards_124 (by decide) ?_
      exact J_ireturn rfl dX7_guards_128 K
  · replace K := K.2 c
    refine J_iload rfl dX7_guards_72 ?_
    refine J_iload rfl dX7_guards_74 ?_
    refine J_iconst (by decide) dX7_guards_76 ?_
    refine J_ishl dX7_guards_77 ?_
    refine J_ior dX7_guards_78 ?_
    refine J_iload rfl dX7_guards_79 ?_
    refine J_iconst (by decide) dX7_guards_81 ?_
    refine J_ishr dX7_guards_82 ?_
    refine J_ior dX7_guards_83 ?_
    refine J_istore (loc' := [none, some (vI y1), some (vI y2), some (vI y3), some (vI y4), some (vI (zor (zor y4 (zshl y4 1)) (zshr y4 1)))]) (by decide) rfl dX7_guards_84 ?_
    refine J_iload_n rfl dX7_guards_86 ?_
    refine J_iload rfl dX7_guards_87 ?_
    refine J_iconst (by decide) dX7_guards_89 ?_
    refine J_ixor dX7_guards_90 ?_
    refine J_iand dX7_guards_91 ?_
    refine J_if_ne (tgt := 110) dX7_guards_92 (by decide) (fun c => ?_) (fun c => ?_)
    · replace K := K.2 c
      refine J_iinc (loc' := [none, some (vI y1), some (vI y2), some (vI y3), some (vI (y4 + (-1))), some (vI (zor (zor y4 (zshl y4 1)) (zshr y4 1)))]) (by decide) rfl K.1 rfl dX7_guards_110 ?_
      replace K := K.2
      refine J_goto (tgt := 67) dX7_guards_113 (by decide) ?_
      exact J_forget (loc' := [none, some (vI y1), some (vI y2), some (vI y3), some (vI (y4 + (-1))), none]) (And.intro (Or.inl rfl) (And.intro (Or.inr rfl) (And.intro (Or.inr rfl) (And.intro (Or.inr rfl) (And.intro (Or.inr rfl) (And.intro (Or.inl rfl) True.intro)))))) K
    · replace K := K.1 c
      refine J_iload rfl dX7_guards_95 ?_
      refine J_b0 (J_callS (b1 := 0) (vs := [vI y4]) (rest := []) (Or.inl rfl) ml_RX7_244 rfl (by decide) (Nat.le_of_ble_eq_true rfl) rfl dX7_guards_97 (c_J6_bitCount  K.1 ?_))
      replace K := K.2
      show J _ _ _ _ _ _ _ [vI (pcI y4)] _
      refine J_iload_n rfl dX7_guards_100 ?_
      refine J_b0 (J_callS (b1 := 0) (vs := [vI y3]) (rest := [vI (pcI y4)]) (Or.inl rfl) ml_RX7_244 rfl (by decide) (Nat.le_of_ble_eq_true rfl) rfl dX7_guards_101 (c_J6_bitCount  K.1 ?_))
      replace K := K.2
      show J _ _ _ _ _ _ _ [vI (pcI y3), vI (pcI y4)] _
      refine J_icmp_gt (tgt := 110) dX7_guards_104 (by decide) (fun c => ?_) (fun c => ?_)
      · replace K := K.1 c
        refine J_iinc (loc' := [none, some (vI y1), some (vI y2), some (vI y3), some (vI (y4 + (-1))), some (vI (zor (zor y4 (zshl y4 1)) (zshr y4 1)))]) (by decide) rfl K.1 rfl dX7_guards_110 ?_
        replace K := K.2
        refine J_goto (tgt := 67) dX7_guards_113 (by decide) ?_
        exact J_forget (loc' := [none, some (vI y1), some (vI y2), some (vI y3), some (vI (y4 + (-1))), none]) (And.intro (Or.inl rfl) (And.intro (Or.inr rfl) (And.intro (Or.inr rfl) (And.intro (Or.inr rfl) (And.intro (Or.inr rfl) (And.intro (Or.inl rfl) True.intro)))))) K
      · replace K := K.2 c
        refine J_iload rfl dX7_guards_107 ?_
        refine J_istore_n (loc' := [none, some (vI y1), some (vI y2), some (vI y4), some (vI y4), some (vI (zor (zor y4 (zshl y4 1)) (zshr y4 1)))]) (by decide) rfl dX7_guards_109 ?_
        refine J_iinc (loc' := [none, some (vI y1), some (vI y2), some (vI y4), some (vI (y4 + (-1))), some (vI (zor (zor y4 (zshl y4 1)) (zshr y4 1)))]) (by decide) rfl K.1 rfl dX7_guards_110 ?_
        replace K := K.2
        refine J_goto (tgt := 67) dX7_guards_113 (by decide) ?_
        exact J_forget (loc' := [none, some (vI y1), some (vI y2), some (vI y4), some (vI (y4 + (-1))), none]) (And.intro (Or.inl rfl) (And.intro (Or.inr rfl) (And.intro (Or.inr rfl) (And.intro (Or.inr rfl) (And.intro (Or.inr rfl) (And.intro (Or.inl rfl) True.intro)))))) K
set_option maxRecDepth 20000 in
set_option maxHeartbeats 2000000 in
theorem w_X7_guards {d b : Nat} {Q : Option AV → AH → Prop} {h : AH} {x1 : Int}  (K : R32 x1 → (x1 < 0 → Q (some (vI (-1))) h) ∧ (¬(x1 < 0) → (x1 ≤ 1 → Lp_X7_guards_15 d b Q x1 0 0 h) ∧ (¬(x1 ≤ 1) → Q (some (vI (-1))) h))) : WM GX (d + 1) b mX7_guards [vR (some 0), vI x1] h Q := by
  refine WM_introE (loc' := [some (vR (some 0)), some (vI x1), none, none, none, none]) rfl (by decide) (Nat.le_of_ble_eq_true rfl) ?_
  refine J_rgl (i := 1) rfl (fun r1 => ?_)
  replace K := K r1
  refine J_iload_n rfl dX7_guards_0 ?_
  refine J_if_lt (tgt := 9) dX7_guards_1 (by decide) (fun c => ?_) (fun c => ?_)
  · replace K := K.1 c
    refine J_iconst (by decide) dX7_guards_9 ?_
    exact J_ireturn rfl dX7_guards_10 K
  · replace K := K.2 c
    refine J_iload_n rfl dX7_guards_4 ?_
    refine J_iconst (by decide) dX7_guards_5 ?_
    refine J_icmp_le (tgt := 11) dX7_guards_6 (by decide) (fun c => ?_) (fun c => ?_)
    · replace K := K.1 c
      refine J_iconst (by decide) dX7_guards_11 ?_
      refine J_istore_n (loc' := [some (vR (some 0)), some (vI x1), some (vI 0), none, none, none]) (by decide) rfl dX7_guards_12 ?_
      refine J_iconst (by decide) dX7_guards_13 ?_
      refine J_istore_n (loc' := [some (vR (some 0)), some (vI x1), some (vI 0), some (vI 0), none, none]) (by decide) rfl dX7_guards_14 ?_
      exact J_forget (loc' := [some (vR (some 0)), some (vI x1), some (vI 0), some (vI 0), none, none]) (And.intro (Or.inr rfl) (And.intro (Or.inr rfl) (And.intro (Or.inr rfl) (And.intro (Or.inr rfl) (And.intro (Or.inl rfl) (And.intro (Or.inl rfl) True.intro)))))) K
    · replace K := K.2 c
      refine J_iconst (by decide) dX7_guards_9 ?_
      exact J_ireturn rfl dX7_guards_10 K
def Lp_X8_guards_21 (d b : Nat) (Q : Option AV → AH → Prop)  (y1 : Int) (y2 : Int) (y3 : Int) (h : AH) : Prop := J GM (d + 1) b mX8_guards Q 21 [some (vR (some 0)), some (vI y1), some (vI y2), some (vI y3), none, none, none] [] h
def Lp_X8_guards_66 (d b : Nat) (Q : Option AV → AH → Prop)  (y1 : Int) (y2 : Int) (y3 : Int) (y4 : Int) (y5 : Int) (h : AH) : Prop := J GM (d + 1) b mX8_guards Q 66 [some (vR (some 0)), some (vI y1), some (vI y2), some (vI y3), some (vI y4), some (vI y5), none] [] h
set_option maxRecDepth 20000 in
set_option maxHeartbeats 2000000 in
theorem l_X8_guards_21 {d b : Nat} {Q : Option AV → AH → Prop} {h : AH}  {y1 : Int} {y2 : Int} {y3 : Int}  (K : (gi h 2 0 ≤ y3 → Lp_X8_guards_66 d b Q y1 y2 100000000 0 0 h) ∧ (¬(gi h 2 0 ≤ y3) → (InvR (gi h 2)) ∧ ((0 : Int) ≤ y3) ∧ (dOf (gi h 2) y3 = (-1) → R32 (y3 + 1) ∧ Lp_X8_guards_21 d b Q y1 (zor y2 (zshl 1 y3)) (y3 + 1) h) ∧ (¬(dOf (gi h 2) y3 = (-1)) → R32 (y3 + 1) ∧ Lp_X8_guards_21 d b Q y1 (zor y2 0) (y3 + 1) h))) : Lp_X8_guards_21 d b Q y1 y2 y3 h := by
  unfold Lp_X8_guards_21
  refine J_iload_n rfl dX8_guards_21 ?_
  refine J_aload_n rfl dX8_guards_22 ?_
  refine J_getS (r := 2) fl_RX8_13 rfl (Or.inl rfl) rfl dX8_guards_23 ?_
  refine J_iconst (by decide) dX8_guards_26 ?_
  refine J_iaload (Or.inl rfl) (by decide) dX8_guards_27 ?_
  refine J_icmp_ge (tgt := 56) dX8_guards_28 (by decide) (fun c => ?_) (fun c => ?_)
  · replace K := K.1 c
    refine J_ldcw (n := 100000000) (by decide) (by decide) kc_RX8_470 dX8_guards_56 ?_
    refine J_istore_n (loc' := [some (vR (some 0)), some (vI y1), some (vI y2), some (vI 100000000), none, none, none]) (by decide) rfl dX8_guards_59 ?_
    refine J_iconst (by decide) dX8_guards_60 ?_
    refine J_istore (loc' := [some (vR (some 0)), some (vI y1), some (vI y2), some (vI 100000000), some (vI 0), none, none]) (by decide) rfl dX8_guards_61 ?_
    refine J_iconst (by decide) dX8_guards_63 ?_
    refine J_istore (loc' := [some (vR (some 0)), some (vI y1), some (vI y2), some (vI 100000000), some (vI 0), some (vI 0), none]) (by decide) rfl dX8_guards_64 ?_
    exact J_forget (loc' := [some (vR (some 0)), some (vI y1), some (vI y2), some (vI 100000000), some (vI 0), some (vI 0), none]) (And.intro (Or.inr rfl) (And.intro (Or.inr rfl) (And.intro (Or.inr rfl) (And.intro (Or.inr rfl) (And.intro (Or.inr rfl) (And.intro (Or.inr rfl) (And.intro (Or.inl rfl) True.intro))))))) K
  · replace K := K.2 c
    refine J_iload_n rfl dX8_guards_31 ?_
    refine J_aload_n rfl dX8_guards_32 ?_
    refine J_iload_n rfl dX8_guards_33 ?_
    refine J_b0 (J_callV (b1 := 0) (ci := 8) (vs := [vI y3]) (rest := [vI y2]) (Or.inl rfl) ml_RX8_200 rfl (by decide) rfl rfl (Or.inl rfl) (Nat.le_of_ble_eq_true rfl) rfl dX8_guards_34 (c_X8_doorOf  K.1 K.2.1 ?_))
    replace K := K.2.2
    show J _ _ _ _ _ _ _ [vI (dOf (gi h 2) y3), vI y2] _
    refine J_iconst (by decide) dX8_guards_37 ?_
    refine J_icmp_ne (tgt := 47) dX8_guards_38 (by decide) (fun c => ?_) (fun c => ?_)
    · replace K := K.2 c
      refine J_iconst (by decide) dX8_guards_47 ?_
      refine J_ior dX8_guards_48 ?_
      refine J_istore_n (loc' := [some (vR (some 0)), some (vI y1), some (vI (zor y2 0)), some (vI y3), none, none, none]) (by decide) rfl dX8_guards_49 ?_
      refine J_iinc (loc' := [some (vR (some 0)), some (vI y1), some (vI (zor y2 0)), some (vI (y3 + 1)), none, none, none]) (by decide) rfl K.1 rfl dX8_guards_50 ?_
      replace K := K.2
      refine J_goto (tgt := 21) dX8_guards_53 (by decide) ?_
      exact J_forget (loc' := [some (vR (some 0)), some (vI y1), some (vI (zor y2 0)), some (vI (y3 + 1)), none, none, none]) (And.intro (Or.inr rfl) (And.intro (Or.inr rfl) (And.intro (Or.inr rfl) (And.intro (Or.inr rfl) (And.intro (Or.inl rfl) (And.intro (Or.inl rfl) (And.intro (Or.inl rfl) True.intro))))))) K
    · replace K := K.1 c
      refine J_iconst (by decide) dX8_guards_41 ?_
      refine J_iload_n rfl dX8_guards_42 ?_
      refine J_ishl dX8_guards_43 ?_
      refine J_goto (tgt := 48) dX8_guards_44 (by decide) ?_
      refine J_ior dX8_guards_48 ?_
      refine J_istore_n (loc' := [some (vR (some 0)), some (vI y1), some (vI (zor y2 (zshl 1 y3))), some (vI y3), none, none, none]) (by decide) rfl dX8_guards_49 ?_
      refine J_iinc (loc' := [some (vR (some 0)), some (vI y1), some (vI (zor y2 (zshl 1 y3))), some (vI (y3 + 1)), none, none, none]) (by decide) rfl K.1 rfl dX8_guards_50 ?_
      replace K := K.2
      refine J_goto (tgt := 21) dX8_guards_53 (by decide) ?_
      exact J_forget (loc' := [some (vR (some 0)), some (vI y1), some (vI (zor y2 (zshl 1 y3))), some (vI (y3 + 1)), none, none, none]) (And.intro (Or.inr rfl) (And.intro (Or.inr rfl) (And.intro (Or.inr rfl) (And.intro (Or.inr rfl) (And.intro (Or.inl rfl) (And.intro (Or.inl rfl) (And.intro (Or.inl rfl) True.intro))))))) K
set_option maxRecDepth 20000 in
set_option maxHeartbeats 2000000 in
theorem l_X8_guards_66 {d b : Nat} {Q : Option AV → AH → Prop} {h : AH}  {y1 : Int} {y2 : Int} {y3 : Int} {y4 : Int} {y5 : Int}  (K : (zshl 1 (gi h 2 0) ≤ y5 → (y1 = 0 → Q (some (vI y3)) h) ∧ (¬(y1 = 0) → Q (some (vI y4)) h)) ∧ (¬(zshl 1 (gi h 2 0) ≤ y5) → (zand y2 (zxor (zor (zor y5 (zshl y5 1)) (zshr y5 1)) (-1)) = 0 → ((0 : Int) ≤ y5 ∧ (y5 : Int) < 33554432) ∧ (y3 ≤ pcI y5 → R32 (y5 + 1) ∧ Lp_X8_guards_66 d b Q y1 y2 y3 y4 (y5 + 1) h) ∧ (¬(y3 ≤ pcI y5) → ((0 : Int) ≤ y5 ∧ (y5 : Int) < 33554432) ∧ R32 (y5 + 1) ∧ Lp_X8_guards_66 d b Q y1 y2 (pcI y5) y5 (y5 + 1) h)) ∧ (¬(zand y2 (zxor (zor (zor y5 (zshl y5 1)) (zshr y5 1)) (-1)) = 0) → R32 (y5 + 1) ∧ Lp_X8_guards_66 d b Q y1 y2 y3 y4 (y5 + 1) h))) : Lp_X8_guards_66 d b Q y1 y2 y3 y4 y5 h := by
  unfold Lp_X8_guards_66
  refine J_iload rfl dX8_guards_66 ?_
  refine J_iconst (by decide) dX8_guards_68 ?_
  refine J_aload_n rfl dX8_guards_69 ?_
  refine J_getS (r := 2) fl_RX8_13 rfl (Or.inl rfl) rfl dX8_guards_70 ?_
  refine J_iconst (by decide) dX8_guards_73 ?_
  refine J_iaload (Or.inl rfl) (by decide) dX8_guards_74 ?_
  refine J_ishl dX8_guards_75 ?_
  refine J_icmp_ge (tgt := 127) dX8_guards_76 (by decide) (fun c => ?_) (fun c => ?_)
  · replace K := K.1 c
    refine J_iload_n rfl dX8_guards_127 ?_
    refine J_if_ne (tgt := 135) dX8_guards_128 (by decide) (fun c => ?_) (fun c => ?_)
    · replace K := K.2 c
      refine J_iload rfl dX8_guards_135 ?_
      exact J_ireturn rfl dX8_guards_137 K
    · replace K := K.1 c
      refine J_iload_n rfl dX8_guards_131 ?_
      refine J_goto (tgt := 137) dX8_guards_132 (by decide) ?_
      exact J_ireturn rfl dX8_guards_137 K
  · replace K := K.2 c
    refine J_iload rfl dX8_guards_79 ?_
    refine J_iload rfl dX8_guards_81 ?_
    refine J_iconst (by decide) dX8_guards_83 ?_
    refine J_ishl dX8_guards_84 ?_
    refine J_ior dX8_guards_85 ?_
    refine J_iload rfl dX8_guards_86 ?_
    refine J_iconst (by decide) dX8_guards_88 ?_
    refine J_ishr dX8_guards_89 ?_
    refine J_ior dX8_guards_90 ?_
    refine J_istore (loc' := [some (vR (some 0)), some (vI y1), some (vI y2), some (vI y3), some (vI y4), some (vI y5), some (vI (zor (zor y5 (zshl y5 1)) (zshr y5 1)))]) (by decide) rfl dX8_guards_91 ?_
    refine J_iload_n rfl dX8_guards_93 ?_
    refine J_iload rfl dX8_guards_94 ?_
    refine J_iconst (by decide) dX8_guards_96 ?_
    refine J_ixor dX8_guards_97 ?_
    refine J_iand dX8_guards_98 ?_
    refine J_if_ne (tgt := 121) dX8_guards_99 (by decide) (fun c => ?_) (fun c => ?_)
    · replace K := K.2 c
      refine J_iinc (loc' := [some (vR (some 0)), some (vI y1), some (vI y2), some (vI y3), some (vI y4), some (vI (y5 + 1)), some (vI (zor (zor y5 (zshl y5 1)) (zshr y5 1)))]) (by decide) rfl K.1 rfl dX8_guards_121 ?_
      replace K := K.2
      refine J_goto (tgt := 66) dX8_guards_124 (by decide) ?_
      exact J_forget (loc' := [some (vR (some 0)), some (vI y1), some (vI y2), some (vI y3), some (vI y4), some (vI (y5 + 1)), none]) (And.intro (Or.inr rfl) (And.intro (Or.inr rfl) (And.intro (Or.inr rfl) (And.intro (Or.inr rfl) (And.intro (Or.inr rfl) (And.intro (Or.inr rfl) (And.intro (Or.inl rfl) True.intro))))))) K
    · replace K := K.1 c
      refine J_iload rfl dX8_guards_102 ?_
      refine J_b0 (J_callS (b1 := 0) (vs := [vI y5]) (rest := []) (Or.inl rfl) ml_RX8_474 rfl (by decide) (Nat.le_of_ble_eq_true rfl) rfl dX8_guards_104 (c_X8_ones  K.1 ?_))
      replace K := K.2
      show J _ _ _ _ _ _ _ [vI (pcI y5)] _
      refine J_iload_n rfl dX8_guards_107 ?_
      refine J_icmp_ge (tgt := 121) dX8_guards_108 (by decide) (fun c => ?_) (fun c => ?_)
      · replace K := K.1 c
        refine J_iinc (loc' := [some (vR (some 0)), some (vI y1), some (vI y2), some (vI y3), some (vI y4), some (vI (y5 + 1)), some (vI (zor (zor y5 (zshl y5 1)) (zshr y5 1)))]) (by decide) rfl K.1 rfl dX8_guards_121 ?_
        replace K := K.2
        refine J_goto (tgt := 66) dX8_guards_124 (by decide) ?_
        exact J_forget (loc' := [some (vR (some 0)), some (vI y1), some (vI y2), some (vI y3), some (vI y4), some (vI (y5 + 1)), none]) (And.intro (Or.inr rfl) (And.intro (Or.inr rfl) (And.intro (Or.inr rfl) (And.intro (Or.inr rfl) (And.intro (Or.inr rfl) (And.intro (Or.inr rfl) (And.intro (Or.inl rfl) True.intro))))))) K
      · replace K := K.2 c
        refine J_iload rfl dX8_guards_111 ?_
        refine J_b0 (J_callS (b1 := 0) (vs := [vI y5]) (rest := []) (Or.inl rfl) ml_RX8_474 rfl (by decide) (Nat.le_of_ble_eq_true rfl) rfl dX8_guards_113 (c_X8_ones  K.1 ?_))
        replace K := K.2
        show J _ _ _ _ _ _ _ [vI (pcI y5)] _
        refine J_istore_n (loc' := [some (vR (some 0)), some (vI y1), some (vI y2), some (vI (pcI y5)), some (vI y4), some (vI y5), some (vI (zor (zor y5 (zshl y5 1)) (zshr y5 1)))]) (by decide) rfl dX8_guards_116 ?_
        refine J_iload rfl dX8_guards_117 ?_
        refine J_istore (loc' := [some (vR (some 0)), some (vI y1), some (vI y2), some (vI (pcI y5)), some (vI y5), some (vI y5), some (vI (zor (zor y5 (zshl y5 1)) (zshr y5 1)))]) (by decide) rfl dX8_guards_119 ?_
        refine J_iinc (loc' := [some (vR (some 0)), some (vI y1), some (vI y2), some (vI (pcI y5)), some (vI y5), some (vI (y5 + 1)), some (vI (zor (zor y5 (zshl y5 1)) (zshr y5 1)))]) (by decide) rfl K.1 rfl dX8_guards_121 ?_
        replace K := K.2
        refine J_goto (tgt := 66) dX8_guards_124 (by decide) ?_
        exact J_forget (loc' := [some (vR (some 0)), some (vI y1), some (vI y2), some (vI (pcI y5)), some (vI y5), some (vI (y5 + 1)), none]) (And.intro (Or.inr rfl) (And.intro (Or.inr rfl) (And.intro (Or.inr rfl) (And.intro (Or.inr rfl) (And.intro (Or.inr rfl) (And.intro (Or.inr rfl) (And.intro (Or.inl rfl) True.intro))))))) K
set_option maxRecDepth 20000 in
set_option maxHeartbeats 2000000 in
theorem w_X8_guards {d b : Nat} {Q : Option AV → AH → Prop} {h : AH} {x1 : Int}  (K : R32 x1 → ∀ h1, h1 = si h 0 0 0 → (0 ≤ x1 ∧ x1 ≤ 1 → Lp_X8_guards_21 d b Q x1 0 0 h1) ∧ (¬(0 ≤ x1 ∧ x1 ≤ 1) → Q (some (vI (-1))) h1)) : WM GM (d + 1) b mX8_guards [vR (some 0), vI x1] h Q := by
  refine WM_introE (loc' := [some (vR (some 0)), some (vI x1), none, none, none, none, none]) rfl (by decide) (Nat.le_of_ble_eq_true rfl) ?_
  refine J_rgl (i := 1) rfl (fun r1 => ?_)
  replace K := K r1
  refine J_aload_n rfl dX8_guards_0 ?_
  refine J_iconst (by decide) dX8_guards_1 ?_
  refine J_putI fl_RX8_161 rfl (Or.inl rfl) dX8_guards_2 ?_
  replace K := K _ rfl
  refine J_iload_n rfl dX8_guards_5 ?_
  refine J_i2l dX8_guards_6 ?_
  refine J_lconst (x := 0) (by decide) (by decide) dX8_guards_7 ?_
  refine J_lconst (x := 1) (by decide) (by decide) dX8_guards_8 ?_
  refine J_b0 (J_callS (b1 := 0) (vs := [vL x1, vL 0, vL 1]) (rest := []) (Or.inl rfl) ml_RX8_181 rfl (by decide) (Nat.le_of_ble_eq_true rfl) rfl dX8_guards_9 (c_X8_in   ?_))
  show J _ _ _ _ _ _ _ [vI (b2i (0 ≤ x1 ∧ x1 ≤ 1))] _
  refine J_if_ne (tgt := 17) dX8_guards_12 (by decide) (fun c => ?_) (fun c => ?_)
  · replace K := K.1 (b2i_n0.mp c)
    refine J_iconst (by decide) dX8_guards_17 ?_
    refine J_istore_n (loc' := [some (vR (some 0)), some (vI x1), some (vI 0), none, none, none, none]) (by decide) rfl dX8_guards_18 ?_
    refine J_iconst (by decide) dX8_guards_19 ?_
    refine J_istore_n (loc' := [some (vR (some 0)), some (vI x1), some (vI 0), some (vI 0), none, none, none]) (by decide) rfl dX8_guards_20 ?_
    exact J_forget (loc' := [some (vR (some 0)), some (vI x1), some (vI 0), some (vI 0), none, none, none]) (And.intro (Or.inr rfl) (And.intro (Or.inr rfl) (And.intro (Or.inr rfl) (And.intro (Or.inr rfl) (And.intro (Or.inl rfl) (And.intro (Or.inl rfl) (And.intro (Or.inl rfl) True.intro))))))) K
  · replace K := K.2 (b2i_0.mp c)
    refine J_iconst (by decide) dX8_guards_15 ?_
    exact J_ireturn rfl dX8_guards_16 K
set_option maxRecDepth 20000 in
set_option maxHeartbeats 2000000 in
theorem w_X7_drawn {d b : Nat} {Q : Option AV → AH → Prop} {h : AH} {x1 : Int} {x2 : Int}  (K : R32 x1 → R32 x2 → (gi h 0 4 = 0 → Q (some (vI (-1))) h) ∧ (¬(gi h 0 4 = 0) → (x2 = 0 → ((0 : Int) ≤ x1 ∧ x1 < gi h 16 2 → (0 ≤ x1 ∧ x1 < 8) ∧ Q (some (vI (gi h 23 x1))) h) ∧ (¬((0 : Int) ≤ x1 ∧ x1 < gi h 16 2) → (x2 = 1 → ((0 : Int) ≤ x1 ∧ x1 < gi h 16 2 → (0 ≤ x1 ∧ x1 < 8) ∧ Q (some (vI (gi h 24 x1))) h) ∧ (¬((0 : Int) ≤ x1 ∧ x1 < gi h 16 2) → (x2 = 2 → ((0 : Int) ≤ x1 ∧ (x1 : Int) < 25 → (0 ≤ x1 ∧ x1 < 25) ∧ Q (some (vI (gi h 25 x1))) h) ∧ (¬((0 : Int) ≤ x1 ∧ (x1 : Int) < 25) → Q (some (vI (-1))) h)) ∧ (¬(x2 = 2) → Q (some (vI (-1))) h))) ∧ (¬(x2 = 1) → (x2 = 2 → ((0 : Int) ≤ x1 ∧ (x1 : Int) < 25 → (0 ≤ x1 ∧ x1 < 25) ∧ Q (some (vI (gi h 25 x1))) h) ∧ (¬((0 : Int) ≤ x1 ∧ (x1 : Int) < 25) → Q (some (vI (-1))) h)) ∧ (¬(x2 = 2) → Q (some (vI (-1))) h)))) ∧ (¬(x2 = 0) → (x2 = 1 → ((0 : Int) ≤ x1 ∧ x1 < gi h 16 2 → (0 ≤ x1 ∧ x1 < 8) ∧ Q (some (vI (gi h 24 x1))) h) ∧ (¬((0 : Int) ≤ x1 ∧ x1 < gi h 16 2) → (x2 = 2 → ((0 : Int) ≤ x1 ∧ (x1 : Int) < 25 → (0 ≤ x1 ∧ x1 < 25) ∧ Q (some (vI (gi h 25 x1))) h) ∧ (¬((0 : Int) ≤ x1 ∧ (x1 : Int) < 25) → Q (some (vI (-1))) h)) ∧ (¬(x2 = 2) → Q (some (vI (-1))) h))) ∧ (¬(x2 = 1) → (x2 = 2 → ((0 : Int) ≤ x1 ∧ (x1 : Int) < 25 → (0 ≤ x1 ∧ x1 < 25) ∧ Q (some (vI (gi h 25 x1))) h) ∧ (¬((0 : Int) ≤ x1 ∧ (x1 : Int) < 25) → Q (some (vI (-1))) h)) ∧ (¬(x2 = 2) → Q (some (vI (-1))) h))))) : WM GX (d + 1) b mX7_drawn [vR (some 0), vI x1, vI x2] h Q := by
  refine WM_introE (loc' := [some (vR (some 0)), some (vI x1), some (vI x2)]) rfl (by decide) (Nat.le_of_ble_eq_true rfl) ?_
  refine J_rgl (i := 1) rfl (fun r1 => ?_)
  replace K := K r1
  refine J_rgl (i := 2) rfl (fun r2 => ?_)
  replace K := K r2
  refine J_aload_n rfl dX7_drawn_0 ?_
  refine J_getI fl_RX7_29 rfl (Or.inl rfl) dX7_drawn_1 ?_
  refine J_if_ne (tgt := 9) dX7_drawn_4 (by decide) (fun c => ?_) (fun c => ?_)
  · replace K := K.2 c
    refine J_iload_n rfl dX7_drawn_9 ?_
    refine J_if_ne (tgt := 34) dX7_drawn_10 (by decide) (fun c => ?_) (fun c => ?_)
    · replace K := K.2 c
      refine J_iload_n rfl dX7_drawn_34 ?_
      refine J_iconst (by decide) dX7_drawn_35 ?_
      refine J_icmp_ne (tgt := 60) dX7_drawn_36 (by decide) (fun c => ?_) (fun c => ?_)
      · replace K := K.2 c
        refine J_iload_n rfl dX7_drawn_60 ?_
        refine J_iconst (by decide) dX7_drawn_61 ?_
        refine J_icmp_ne (tgt := 82) dX7_drawn_62 (by decide) (fun c => ?_) (fun c => ?_)
        · replace K := K.2 c
          refine J_iconst (by decide) dX7_drawn_82 ?_
          exact J_ireturn rfl dX7_drawn_83 K
        · replace K := K.1 c
          refine J_iload_n rfl dX7_drawn_65 ?_
          refine J_b0 (J_callS (b1 := 0) (vs := [vI x1]) (rest := []) (Or.inl rfl) ml_RX7_152 rfl (by decide) (Nat.le_of_ble_eq_true rfl) rfl dX7_drawn_66 (c_X7_isCell   ?_))
          show J _ _ _ _ _ _ _ [vI (b2i ((0 : Int) ≤ x1 ∧ (x1 : Int) < 25))] _
          refine J_if_eq (tgt := 82) dX7_drawn_69 (by decide) (fun c => ?_) (fun c => ?_)
          · replace K := K.2 (b2i_0.mp c)
            refine J_iconst (by decide) dX7_drawn_82 ?_
            exact J_ireturn rfl dX7_drawn_83 K
          · replace K := K.1 (b2i_n0.mp c)
            refine J_aload_n rfl dX7_drawn_72 ?_
            refine J_getS (r := 16) fl_RX7_26 rfl (Or.inl rfl) rfl dX7_drawn_73 ?_
            refine J_getS (r := 25) fl_RX7_155 rfl (Or.inl rfl) rfl dX7_drawn_76 ?_
            refine J_iload_n rfl dX7_drawn_79 ?_
            refine J_iaload (Or.inl rfl) K.1 dX7_drawn_80 ?_
            replace K := K.2
            exact J_ireturn rfl dX7_drawn_81 K
      · replace K := K.1 c
        refine J_aload_n rfl dX7_drawn_39 ?_
        refine J_getS (r := 16) fl_RX7_26 rfl (Or.inl rfl) rfl dX7_drawn_40 ?_
        refine J_iload_n rfl dX7_drawn_43 ?_
        refine J_b0 (J_callV (b1 := 0) (ci := 0) (vs := [vI x1]) (rest := []) (Or.inr rfl) ml_RX7_138 rfl (by decide) rfl rfl (Or.inl rfl) (Nat.le_of_ble_eq_true rfl) rfl dX7_drawn_44 (c_X0_isDoor (by decide)  ?_))
        show J _ _ _ _ _ _ _ [vI (b2i ((0 : Int) ≤ x1 ∧ x1 < gi h 16 2))] _
        refine J_if_eq (tgt := 60) dX7_drawn_47 (by decide) (fun c => ?_) (fun c => ?_)
        · replace K := K.2 (b2i_0.mp c)
          refine J_iload_n rfl dX7_drawn_60 ?_
          refine J_iconst (by decide) dX7_drawn_61 ?_
          refine J_icmp_ne (tgt := 82) dX7_drawn_62 (by decide) (fun c => ?_) (fun c => ?_)
          · replace K := K.2 c
            refine J_iconst (by decide) dX7_drawn_82 ?_
            exact J_ireturn rfl dX7_drawn_83 K
          · replace K := K.1 c
            refine J_iload_n rfl dX7_drawn_65 ?_
            refine J_b0 (J_callS (b1 := 0) (vs := [vI x1]) (rest := []) (Or.inl rfl) ml_RX7_152 rfl (by decide) (Nat.le_of_ble_eq_true rfl) rfl dX7_drawn_66 (c_X7_isCell   ?_))
            show J _ _ _ _ _ _ _ [vI (b2i ((0 : Int) ≤ x1 ∧ (x1 : Int) < 25))] _
            refine J_if_eq (tgt := 82) dX7_drawn_69 (by decide) (fun c => ?_) (fun c => ?_)
            · replace K := K.2 (b2i_0.mp c)
              refine J_iconst (by decide) dX7_drawn_82 ?_
              exact J_ireturn rfl dX7_drawn_83 K
            · replace K := K.1 (b2i_n0.mp c)
              refine J_aload_n rfl dX7_drawn_72 ?_
              refine J_getS (r := 16) fl_RX7_26 rfl (Or.inl rfl) rfl dX7_drawn_73 ?_
              refine J_getS (r := 25) fl_RX7_155 rfl (Or.inl rfl) rfl dX7_drawn_76 ?_
              refine J_iload_n rfl dX7_drawn_79 ?_
              refine J_iaload (Or.inl rfl) K.1 dX7_drawn_80 ?_
              replace K := K.2
              exact J_ireturn rfl dX7_drawn_81 K
        · replace K := K.1 (b2i_n0.mp c)
          refine J_aload_n rfl dX7_drawn_50 ?_
          refine J_getS (r := 16) fl_RX7_26 rfl (Or.inl rfl) rfl dX7_drawn_51 ?_
          refine J_getS (r := 24) fl_RX7_132 rfl (Or.inl rfl) rfl dX7_drawn_54 ?_
          refine J_iload_n rfl dX7_drawn_57 ?_
          refine J_iaload (Or.inl rfl) K.1 dX7_drawn_58 ?_
          replace K := K.2
          exact J_ireturn rfl dX7_drawn_59 K
    · replace K := K.1 c
      refine J_aload_n rfl dX7_drawn_13 ?_
      refine J_getS (r := 16) fl_RX7_26 rfl (Or.inl rfl) rfl dX7_drawn_14 ?_
      refine J_iload_n rfl dX7_drawn_17 ?_
      refine J_b0 (J_callV (b1 := 0) (ci := 0) (vs := [vI x1]) (rest := []) (Or.inr rfl) ml_RX7_138 rfl (by decide) rfl rfl (Or.inl rfl) (Nat.le_of_ble_eq_true rfl) rfl dX7_drawn_18 (c_X0_isDoor (by decide)  ?_))
      show J _ _ _ _ _ _ _ [vI (b2i ((0 : Int) ≤ x1 ∧ x1 < gi h 16 2))] _
      refine J_if_eq (tgt := 34) dX7_drawn_21 (by decide) (fun c => ?_) (fun c => ?_)
      · replace K := K.2 (b2i_0.mp c)
        refine J_iload_n rfl dX7_drawn_34 ?_
        refine J_iconst (by decide) dX7_drawn_35 ?_
        refine J_icmp_ne (tgt := 60) dX7_drawn_36 (by decide) (fun c => ?_) (fun c => ?_)
        · replace K := K.2 c
          refine J_iload_n rfl dX7_drawn_60 ?_
          refine J_iconst (by decide) dX7_drawn_61 ?_
          refine J_icmp_ne (tgt := 82) dX7_drawn_62 (by decide) (fun c => ?_) (fun c => ?_)
          · replace K := K.2 c
            refine J_iconst (by decide) dX7_drawn_82 ?_
            exact J_ireturn rfl dX7_drawn_83 K
          · replace K := K.1 c
            refine J_iload_n rfl dX7_drawn_65 ?_
            refine J_b0 (J_callS (b1 := 0) (vs := [vI x1]) (rest := []) (Or.inl rfl) ml_RX7_152 rfl (by decide) (Nat.le_of_ble_eq_true rfl) rfl dX7_drawn_66 (c_X7_isCell   ?_))
            show J _ _ _ _ _ _ _ [vI (b2i ((0 : Int) ≤ x1 ∧ (x1 : Int) < 25))] _
            refine J_if_eq (tgt := 82) dX7_drawn_69 (by decide) (fun c => ?_) (fun c => ?_)
            · replace K := K.2 (b2i_0.mp c)
              refine J_iconst (by decide) dX7_drawn_82 ?_
              exact J_ireturn rfl dX7_drawn_83 K
            · replace K := K.1 (b2i_n0.mp c)
              refine J_aload_n rfl dX7_drawn_72 ?_
              refine J_getS (r := 16) fl_RX7_26 rfl (Or.inl rfl) rfl dX7_drawn_73 ?_
              refine J_getS (r := 25) fl_RX7_155 rfl (Or.inl rfl) rfl dX7_drawn_76 ?_
              refine J_iload_n rfl dX7_drawn_79 ?_
              refine J_iaload (Or.inl rfl) K.1 dX7_drawn_80 ?_
              replace K := K.2
              exact J_ireturn rfl dX7_drawn_81 K
        · replace K := K.1 c
          refine J_aload_n rfl dX7_drawn_39 ?_
          refine J_getS (r := 16) fl_RX7_26 rfl (Or.inl rfl) rfl dX7_drawn_40 ?_
          refine J_iload_n rfl dX7_drawn_43 ?_
          refine J_b0 (J_callV (b1 := 0) (ci := 0) (vs := [vI x1]) (rest := []) (Or.inr rfl) ml_RX7_138 rfl (by decide) rfl rfl (Or.inl rfl) (Nat.le_of_ble_eq_true rfl) rfl dX7_drawn_44 (c_X0_isDoor (by decide)  ?_))
          show J _ _ _ _ _ _ _ [vI (b2i ((0 : Int) ≤ x1 ∧ x1 < gi h 16 2))] _
          refine J_if_eq (tgt := 60) dX7_drawn_47 (by decide) (fun c => ?_) (fun c => ?_)
          · replace K := K.2 (b2i_0.mp c)
            refine J_iload_n rfl dX7_drawn_60 ?_
            refine J_iconst (by decide) dX7_drawn_61 ?_
            refine J_icmp_ne (tgt := 82) dX7_drawn_62 (by decide) (fun c => ?_) (fun c => ?_)
            · replace K := K.2 c
              refine J_iconst (by decide) dX7_drawn_82 ?_
              exact J_ireturn rfl dX7_drawn_83 K
            · replace K := K.1 c
              refine J_iload_n rfl dX7_drawn_65 ?_
              refine J_b0 (J_callS (b1 := 0) (vs := [vI x1]) (rest := []) (Or.inl rfl) ml_RX7_152 rfl (by decide) (Nat.le_of_ble_eq_true rfl) rfl dX7_drawn_66 (c_X7_isCell   ?_))
              show J _ _ _ _ _ _ _ [vI (b2i ((0 : Int) ≤ x1 ∧ (x1 : Int) < 25))] _
              refine J_if_eq (tgt := 82) dX7_drawn_69 (by decide) (fun c => ?_) (fun c => ?_)
              · replace K := K.2 (b2i_0.mp c)
                refine J_iconst (by decide) dX7_drawn_82 ?_
                exact J_ireturn rfl dX7_drawn_83 K
              · replace K := K.1 (b2i_n0.mp c)
                refine J_aload_n rfl dX7_drawn_72 ?_
                refine J_getS (r := 16) fl_RX7_26 rfl (Or.inl rfl) rfl dX7_drawn_73 ?_
                refine J_getS (r := 25) fl_RX7_155 rfl (Or.inl rfl) rfl dX7_drawn_76 ?_
                refine J_iload_n rfl dX7_drawn_79 ?_
                refine J_iaload (Or.inl rfl) K.1 dX7_drawn_80 ?_
                replace K := K.2
                exact J_ireturn rfl dX7_drawn_81 K
          · replace K := K.1 (b2i_n0.mp c)
            refine J_aload_n rfl dX7_drawn_50 ?_
            refine J_getS (r := 16) fl_RX7_26 rfl (Or.inl rfl) rfl dX7_drawn_51 ?_
            refine J_getS (r := 24) fl_RX7_132 rfl (Or.inl rfl) rfl dX7_drawn_54 ?_
            refine J_iload_n rfl dX7_drawn_57 ?_
            refine J_iaload (Or.inl rfl) K.1 dX7_drawn_58 ?_
            replace K := K.2
            exact J_ireturn rfl dX7_drawn_59 K
      · replace K := K.1 (b2i_n0.mp c)
        refine J_aload_n rfl dX7_drawn_24 ?_
        refine J_getS (r := 16) fl_RX7_26 rfl (Or.inl rfl) rfl dX7_drawn_25 ?_
        refine J_getS (r := 23) fl_RX7_129 rfl (Or.inl rfl) rfl dX7_drawn_28 ?_
        refine J_iload_n rfl dX7_drawn_31 ?_
        refine J_iaload (Or.inl rfl) K.1 dX7_drawn_32 ?_
        replace K := K.2
        exact J_ireturn rfl dX7_drawn_33 K
  · replace K := K.1 c
    refine J_iconst (by decide) dX7_drawn_7 ?_
    exact J_ireturn rfl dX7_drawn_8 K
set_option maxRecDepth 20000 in
set_option maxHeartbeats 2000000 in
theorem w_X8_drawn {d b : Nat} {Q : Option AV → AH → Prop} {h : AH} {x1 : Int} {x2 : Int}  (K : R32 x1 → R32 x2 → ∀ h1, h1 = si h 0 0 0 → (gi h 0 57 = (-1) → Q (some (vI (-1))) h1) ∧ (¬(gi h 0 57 = (-1)) → (0 ≤ x2 ∧ x2 ≤ 2 → (x2 = 2 → (0 ≤ x1 ∧ x1 ≤ (25 - 1) → (x2 = 2 → (0 ≤ x1 ∧ x1 < 25) ∧ Q (some (vI (gi h 31 x1))) h1) ∧ (¬(x2 = 2) → R32 (2 * x1) ∧ R32 ((2 * x1) + x2) ∧ (0 ≤ (2 * x1) + x2 ∧ (2 * x1) + x2 < 16) ∧ Q (some (vI (gi h 30 ((2 * x1) + x2)))) h1)) ∧ (¬(0 ≤ x1 ∧ x1 ≤ (25 - 1)) → Q (some (vI (-1))) h1)) ∧ (¬(x2 = 2) → R64 ((gi h 0 57) - 1) ∧ (0 ≤ x1 ∧ x1 ≤ ((gi h 0 57) - 1) → (x2 = 2 → (0 ≤ x1 ∧ x1 < 25) ∧ Q (some (vI (gi h 31 x1))) h1) ∧ (¬(x2 = 2) → R32 (2 * x1) ∧ R32 ((2 * x1) + x2) ∧ (0 ≤ (2 * x1) + x2 ∧ (2 * x1) + x2 < 16) ∧ Q (some (vI (gi h 30 ((2 * x1) + x2)))) h1)) ∧ (¬(0 ≤ x1 ∧ x1 ≤ ((gi h 0 57) - 1)) → Q (some (vI (-1))) h1))) ∧ (¬(0 ≤ x2 ∧ x2 ≤ 2) → Q (some (vI (-1))) h1))) : WM GM (d + 1) b mX8_drawn [vR (some 0), vI x1, vI x2] h Q := by
  refine WM_introE (loc' := [some (vR (some 0)), some (vI x1), some (vI x2)]) rfl (by decide) (Nat.le_of_ble_eq_true rfl) ?_
  refine J_rgl (i := 1) rfl (fun r1 => ?_)
  replace K := K r1
  refine J_rgl (i := 2) rfl (fun r2 => ?_)
  replace K := K r2
  refine J_aload_n rfl dX8_drawn_0 ?_
  refine J_iconst (by decide) dX8_drawn_1 ?_
  refine J_putI fl_RX8_161 rfl (Or.inl rfl) dX8_drawn_2 ?_
  replace K := K _ rfl
  refine J_aload_n rfl dX8_drawn_5 ?_
  refine J_getIe fl_RX8_158 rfl (Or.inl rfl) (gi_nk (by decide)) dX8_drawn_6 ?_
  refine J_iconst (by decide) dX8_drawn_9 ?_
  refine J_icmp_eq (tgt := 51) dX8_drawn_10 (by decide) (fun c => ?_) (fun c => ?_)
  · replace K := K.1 c
    refine J_iconst (by decide) dX8_drawn_51 ?_
    exact J_ireturn rfl dX8_drawn_52 K
  · replace K := K.2 c
    refine J_iload_n rfl dX8_drawn_13 ?_
    refine J_i2l dX8_drawn_14 ?_
    refine J_lconst (x := 0) (by decide) (by decide) dX8_drawn_15 ?_
    refine J_ldc2 (n := 2) (by decide) (by decide) kc_RX8_227 dX8_drawn_16 ?_
    refine J_b0 (J_callS (b1 := 0) (vs := [vL x2, vL 0, vL 2]) (rest := []) (Or.inl rfl) ml_RX8_181 rfl (by decide) (Nat.le_of_ble_eq_true rfl) rfl dX8_drawn_19 (c_X8_in   ?_))
    show J _ _ _ _ _ _ _ [vI (b2i (0 ≤ x2 ∧ x2 ≤ 2))] _
    refine J_if_eq (tgt := 51) dX8_drawn_22 (by decide) (fun c => ?_) (fun c => ?_)
    · replace K := K.2 (b2i_0.mp c)
      refine J_iconst (by decide) dX8_drawn_51 ?_
      exact J_ireturn rfl dX8_drawn_52 K
    · replace K := K.1 (b2i_n0.mp c)
      refine J_iload_n rfl dX8_drawn_25 ?_
      refine J_i2l dX8_drawn_26 ?_
      refine J_lconst (x := 0) (by decide) (by decide) dX8_drawn_27 ?_
      refine J_iload_n rfl dX8_drawn_28 ?_
      refine J_iconst (by decide) dX8_drawn_29 ?_
      refine J_icmp_ne (tgt := 38) dX8_drawn_30 (by decide) (fun c => ?_) (fun c => ?_)
      · replace K := K.2 c
        refine J_aload_n rfl dX8_drawn_38 ?_
        refine J_getIe fl_RX8_158 rfl (Or.inl rfl) (gi_nk (by decide)) dX8_drawn_39 ?_
        refine J_i2l dX8_drawn_42 ?_
        refine J_lconst (x := 1) (by decide) (by decide) dX8_drawn_43 ?_
        refine J_lsub K.1 dX8_drawn_44 ?_
        replace K := K.2
        refine J_b0 (J_callS (b1 := 0) (vs := [vL x1, vL 0, vL ((gi h 0 57) - 1)]) (rest := []) (Or.inl rfl) ml_RX8_181 rfl (by decide) (Nat.le_of_ble_eq_true rfl) rfl dX8_drawn_45 (c_X8_in   ?_))
        show J _ _ _ _ _ _ _ [vI (b2i (0 ≤ x1 ∧ x1 ≤ ((gi h 0 57) - 1)))] _
        refine J_if_ne (tgt := 53) dX8_drawn_48 (by decide) (fun c => ?_) (fun c => ?_)
        · replace K := K.1 (b2i_n0.mp c)
          refine J_iload_n rfl dX8_drawn_53 ?_
          refine J_iconst (by decide) dX8_drawn_54 ?_
          refine J_icmp_ne (tgt := 67) dX8_drawn_55 (by decide) (fun c => ?_) (fun c => ?_)
          · replace K := K.2 c
            refine J_aload_n rfl dX8_drawn_67 ?_
            refine J_getS (r := 30) fl_RX8_152 rfl (Or.inl rfl) rfl dX8_drawn_68 ?_
            refine J_iconst (by decide) dX8_drawn_71 ?_
            refine J_iload_n rfl dX8_drawn_72 ?_
            refine J_imul K.1 dX8_drawn_73 ?_
            replace K := K.2
            refine J_iload_n rfl dX8_drawn_74 ?_
            refine J_iadd K.1 dX8_drawn_75 ?_
            replace K := K.2
            refine J_ialoade (Or.inl rfl) K.1 (gi_no (by decide)) dX8_drawn_76 ?_
            replace K := K.2
            exact J_ireturn rfl dX8_drawn_77 K
          · replace K := K.1 c
            refine J_aload_n rfl dX8_drawn_58 ?_
            refine J_getS (r := 31) fl_RX8_155 rfl (Or.inl rfl) rfl dX8_drawn_59 ?_
            refine J_iload_n rfl dX8_drawn_62 ?_
            refine J_ialoade (Or.inl rfl) K.1 (gi_no (by decide)) dX8_drawn_63 ?_
            replace K := K.2
            refine J_goto (tgt := 77) dX8_drawn_64 (by decide) ?_
            exact J_ireturn rfl dX8_drawn_77 K
        · replace K := K.2 (b2i_0.mp c)
          refine J_iconst (by decide) dX8_drawn_51 ?_
          exact J_ireturn rfl dX8_drawn_52 K
      · replace K := K.1 c
        refine J_bipush (by decide) (by decide) dX8_drawn_33 ?_
        refine J_goto (tgt := 42) dX8_drawn_35 (by decide) ?_
        refine J_i2l dX8_drawn_42 ?_
        refine J_lconst (x := 1) (by decide) (by decide) dX8_drawn_43 ?_
        refine J_lsub (by decide) dX8_drawn_44 ?_
        refine J_b0 (J_callS (b1 := 0) (vs := [vL x1, vL 0, vL (25 - 1)]) (rest := []) (Or.inl rfl) ml_RX8_181 rfl (by decide) (Nat.le_of_ble_eq_true rfl) rfl dX8_drawn_45 (c_X8_in   ?_))
        show J _ _ _ _ _ _ _ [vI (b2i (0 ≤ x1 ∧ x1 ≤ (25 - 1)))] _
        refine J_if_ne (tgt := 53) dX8_drawn_48 (by decide) (fun c => ?_) (fun c => ?_)
        · replace K := K.1 (b2i_n0.mp c)
          refine J_iload_n rfl dX8_drawn_53 ?_
          refine J_iconst (by decide) dX8_drawn_54 ?_
          refine J_icmp_ne (tgt := 67) dX8_drawn_55 (by decide) (fun c => ?_) (fun c => ?_)
          · replace K := K.2 c
            refine J_aload_n rfl dX8_drawn_67 ?_
            refine J_getS (r := 30) fl_RX8_152 rfl (Or.inl rfl) rfl dX8_drawn_68 ?_
            refine J_iconst (by decide) dX8_drawn_71 ?_
            refine J_iload_n rfl dX8_drawn_72 ?_
            refine J_imul K.1 dX8_drawn_73 ?_
            replace K := K.2
            refine J_iload_n rfl dX8_drawn_74 ?_
            refine J_iadd K.1 dX8_drawn_75 ?_
            replace K := K.2
            refine J_ialoade (Or.inl rfl) K.1 (gi_no (by decide)) dX8_drawn_76 ?_
            replace K := K.2
            exact J_ireturn rfl dX8_drawn_77 K
          · replace K := K.1 c
            refine J_aload_n rfl dX8_drawn_58 ?_
            refine J_getS (r := 31) fl_RX8_155 rfl (Or.inl rfl) rfl dX8_drawn_59 ?_
            refine J_iload_n rfl dX8_drawn_62 ?_
            refine J_ialoade (Or.inl rfl) K.1 (gi_no (by decide)) dX8_drawn_63 ?_
            replace K := K.2
            refine J_goto (tgt := 77) dX8_drawn_64 (by decide) ?_
            exact J_ireturn rfl dX8_drawn_77 K
        · replace K := K.2 (b2i_0.mp c)
          refine J_iconst (by decide) dX8_drawn_51 ?_
          exact J_ireturn rfl dX8_drawn_52 K
