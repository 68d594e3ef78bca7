set_option maxRecDepth 20000 in
set_option maxHeartbeats 2000000 in
theorem w_X0_take {d b : Nat} {Q : Option AV → AH → Prop} {h : AH} {o : Nat} {x1 : Int} {x2 : Int} (ho : isl o) (K : (0 ≤ x1 ∧ x1 < 8) ∧ ((0 : Int) ≤ (gi h (o + 7) x1) ∧ ((gi h (o + 7) x1) : Int) < 25 → (0 ≤ x1 ∧ x1 < 8) ∧ R32 ((gi h (o + 8) x1) + x2) ∧ (0 ≤ x1 ∧ x1 < 8) ∧ ∀ h1, h1 = si h (o + 8) x1 (min ((gi h (o + 8) x1) + x2) 999) → (0 ≤ gi h (o + 7) x1 ∧ gi h (o + 7) x1 < 25) ∧ R32 ((gi h (o + 9) (gi h (o + 7) x1)) - x2) ∧ (0 ≤ gi h (o + 7) x1 ∧ gi h (o + 7) x1 < 25) ∧ ∀ h2, h2 = si h1 (o + 9) (gi h (o + 7) x1) ((gi h (o + 9) (gi h (o + 7) x1)) - x2) → Q none h2) ∧ (¬((0 : Int) ≤ (gi h (o + 7) x1) ∧ ((gi h (o + 7) x1) : Int) < 25) → Q none h)) : WM GX (d + 1) b mX0_take [vR (some o), vI x1, vI x2] h Q := by
  refine WM_introE (loc' := [some (vR (some o)), some (vI x1), some (vI x2), none]) rfl (by decide) (Nat.le_of_ble_eq_true rfl) ?_
  refine J_aload_n rfl dX0_take_0 ?_
  refine J_getS (r := o + 7) fl_RX0_37 rfl (Or.inl (gx_isl ho)) (gx_r7 ho) dX0_take_1 ?_
  refine J_iload_n rfl dX0_take_4 ?_
  refine J_iaload (Or.inl (gx_a7 ho)) K.1 dX0_take_5 ?_
  replace K := K.2
  refine J_istore_n (loc' := [some (vR (some o)), some (vI x1), some (vI x2), some (vI (gi h (o + 7) x1))]) (by decide) rfl dX0_take_6 ?_
  refine J_iload_n rfl dX0_take_7 ?_
  refine J_b0 (J_callS (b1 := 0) (vs := [vI (gi h (o + 7) x1)]) (rest := []) (Or.inr rfl) ml_RX0_93 rfl (by decide) (Nat.le_of_ble_eq_true rfl) rfl dX0_take_8 (c_X7_isCell   ?_))
  show J _ _ _ _ _ _ _ [vI (b2i ((0 : Int) ≤ (gi h (o + 7) x1) ∧ ((gi h (o + 7) x1) : Int) < 25))] _
  refine J_if_ne (tgt := 15) dX0_take_11 (by decide) (fun c => ?_) (fun c => ?_)
  · replace K := K.1 (b2i_n0.mp c)
    refine J_aload_n rfl dX0_take_15 ?_
    refine J_getS (r := o + 8) fl_RX0_40 rfl (Or.inl (gx_isl ho)) (gx_r8 ho) dX0_take_16 ?_
    refine J_iload_n rfl dX0_take_19 ?_
    refine J_aload_n rfl dX0_take_20 ?_
    refine J_getS (r := o + 8) fl_RX0_40 rfl (Or.inl (gx_isl ho)) (gx_r8 ho) dX0_take_21 ?_
    refine J_iload_n rfl dX0_take_24 ?_
    refine J_iaload (Or.inl (gx_a8 ho)) K.1 dX0_take_25 ?_
    replace K := K.2
    refine J_iload_n rfl dX0_take_26 ?_
    refine J_iadd K.1 dX0_take_27 ?_
    replace K := K.2
    refine J_sipush (by decide) (by decide) dX0_take_28 ?_
    refine J_mmin ml_RX0_100 (Nat.le_of_ble_eq_true rfl) dX0_take_31 ?_
    refine J_iastore (Or.inl (gx_a8 ho)) K.1 dX0_take_34 ?_
    replace K := K.2
    replace K := K _ rfl
    refine J_aload_n rfl dX0_take_35 ?_
    refine J_getS (r := o + 9) fl_RX0_43 rfl (Or.inl (gx_isl ho)) (gx_r9 ho) dX0_take_36 ?_
    refine J_iload_n rfl dX0_take_39 ?_
    refine J_dup2 rfl rfl dX0_take_40 ?_
    refine J_ialoade (Or.inl (gx_a9 ho)) K.1 (gi_no (by omega)) dX0_take_41 ?_
    replace K := K.2
    refine J_iload_n rfl dX0_take_42 ?_
    refine J_isub K.1 dX0_take_43 ?_
    replace K := K.2
    refine J_iastore (Or.inl (gx_a9 ho)) K.1 dX0_take_44 ?_
    replace K := K.2
    replace K := K _ rfl
    exact J_return rfl dX0_take_45 K
  · replace K := K.2 (b2i_0.mp c)
    exact J_return rfl dX0_take_14 K
def Lp_X0_flow_4 (d b : Nat) (Q : Option AV → AH → Prop) (o : Nat) (y1 : Int) (y2 : Int) (h : AH) : Prop := J GX (d + 2) b mX0_flow Q 4 [some (vR (some o)), some (vI y1), some (vI y2)] [] h
def Lp_X0_flow_63 (d b : Nat) (Q : Option AV → AH → Prop) (o : Nat) (y1 : Int) (y2 : Int) (h : AH) : Prop := J GX (d + 2) b mX0_flow Q 63 [some (vR (some o)), some (vI y1), some (vI y2)] [] h
set_option maxRecDepth 20000 in
set_option maxHeartbeats 2000000 in
theorem l_X0_flow_4 {d b : Nat} {Q : Option AV → AH → Prop} {h : AH} {o : Nat} {y1 : Int} {y2 : Int} (ho : isl o) (K : (gi h o 2 ≤ y2 → Lp_X0_flow_63 d b Q o y1 0 h) ∧ (¬(gi h o 2 ≤ y2) → (0 ≤ y2 ∧ y2 < 8) ∧ (gi h (o + 7) y2 = (-1) → R32 (y2 + 1) ∧ Lp_X0_flow_4 d b Q o y1 (y2 + 1) h) ∧ (¬(gi h (o + 7) y2 = (-1)) → (0 ≤ y2 ∧ y2 < 8) ∧ ((-1 : Int) ≤ (gi h (o + 7) y2) ∧ ((gi h (o + 7) y2) : Int) < 25) ∧ ((0 : Int) ≤ 1 ∧ (1 : Int) ≤ 1000) ∧ (0 ≤ y2 ∧ y2 < 8) ∧ ∀ h1, h1 = si h (o + 7) y2 (drf (gi h (o + 10)) (Int.toNat 1) (gi h (o + 7) y2)) → (0 ≤ y2 ∧ y2 < 8) ∧ (drf (gi h (o + 10)) (Int.toNat 1) (gi h (o + 7) y2) = (-1) → R32 (y1 + 1) ∧ R32 (y2 + 1) ∧ Lp_X0_flow_4 d b Q o (y1 + 1) (y2 + 1) h1) ∧ (¬(drf (gi h (o + 10)) (Int.toNat 1) (gi h (o + 7) y2) = (-1)) → R32 (y2 + 1) ∧ Lp_X0_flow_4 d b Q o y1 (y2 + 1) h1)))) : Lp_X0_flow_4 d b Q o y1 y2 h := by
  unfold Lp_X0_flow_4
  refine J_iload_n rfl dX0_flow_4 ?_
  refine J_aload_n rfl dX0_flow_5 ?_
  refine J_getI fl_RX0_19 rfl (Or.inl (gx_isl ho)) dX0_flow_6 ?_
  refine J_icmp_ge (tgt := 61) dX0_flow_9 (by decide) (fun c => ?_) (fun c => ?_)
  · replace K := K.1 c
    refine J_iconst (by decide) dX0_flow_61 ?_
    refine J_istore_n (loc' := [some (vR (some o)), some (vI y1), some (vI 0)]) (by decide) rfl dX0_flow_62 ?_
    exact J_forget (loc' := [some (vR (some o)), some (vI y1), some (vI 0)]) (And.intro (Or.inr rfl) (And.intro (Or.inr rfl) (And.intro (Or.inr rfl) True.intro))) K
  · replace K := K.2 c
    refine J_aload_n rfl dX0_flow_12 ?_
    refine J_getS (r := o + 7) fl_RX0_37 rfl (Or.inl (gx_isl ho)) (gx_r7 ho) dX0_flow_13 ?_
    refine J_iload_n rfl dX0_flow_16 ?_
    refine J_iaload (Or.inl (gx_a7 ho)) K.1 dX0_flow_17 ?_
    replace K := K.2
    refine J_iconst (by decide) dX0_flow_18 ?_
    refine J_icmp_ne (tgt := 25) dX0_flow_19 (by decide) (fun c => ?_) (fun c => ?_)
    · replace K := K.2 c
      refine J_aload_n rfl dX0_flow_25 ?_
      refine J_getS (r := o + 7) fl_RX0_37 rfl (Or.inl (gx_isl ho)) (gx_r7 ho) dX0_flow_26 ?_
      refine J_iload_n rfl dX0_flow_29 ?_
      refine J_aload_n rfl dX0_flow_30 ?_
      refine J_aload_n rfl dX0_flow_31 ?_
      refine J_getS (r := o + 7) fl_RX0_37 rfl (Or.inl (gx_isl ho)) (gx_r7 ho) dX0_flow_32 ?_
      refine J_iload_n rfl dX0_flow_35 ?_
      refine J_iaload (Or.inl (gx_a7 ho)) K.1 dX0_flow_36 ?_
      replace K := K.2
      refine J_iconst (by decide) dX0_flow_37 ?_
      refine J_b0 (J_callV (b1 := 0) (ci := 0) (vs := [vI (gi h (o + 7) y2), vI 1]) (rest := [vI y2, vR (some (o + 7))]) (Or.inl rfl) ml_RX0_105 rfl (by decide) rfl rfl (Or.inl (gx_isl ho)) (Nat.le_of_ble_eq_true rfl) rfl dX0_flow_38 (c_X0_driftsTo ho K.1 K.2.1 ?_))
      replace K := K.2.2
      show J _ _ _ _ _ _ _ [vI (drf (gi h (o + 10)) (Int.toNat 1) (gi h (o + 7) y2)), vI y2, vR (some (o + 7))] _
      refine J_iastore (Or.inl (gx_a7 ho)) K.1 dX0_flow_41 ?_
      replace K := K.2
      replace K := K _ rfl
      refine J_aload_n rfl dX0_flow_42 ?_
      refine J_getS (r := o + 7) fl_RX0_37 rfl (Or.inl (gx_isl ho)) (gx_r7 ho) dX0_flow_43 ?_
      refine J_iload_n rfl dX0_flow_46 ?_
      refine J_ialoade (Or.inl (gx_a7 ho)) K.1 gi_eq dX0_flow_47 ?_
      replace K := K.2
      refine J_iconst (by decide) dX0_flow_48 ?_
      refine J_icmp_ne (tgt := 55) dX0_flow_49 (by decide) (fun c => ?_) (fun c => ?_)
      · replace K := K.2 c
        refine J_iinc (loc' := [some (vR (some o)), some (vI y1), some (vI (y2 + 1))]) (by decide) rfl K.1 rfl dX0_flow_55 ?_
        replace K := K.2
        refine J_goto (tgt := 4) dX0_flow_58 (by decide) ?_
        exact J_forget (loc' := [some (vR (some o)), some (vI y1), some (vI (y2 + 1))]) (And.intro (Or.inr rfl) (And.intro (Or.inr rfl) (And.intro (Or.inr rfl) True.intro))) K
      · replace K := K.1 c
        refine J_iinc (loc' := [some (vR (some o)), some (vI (y1 + 1)), some (vI y2)]) (by decide) rfl K.1 rfl dX0_flow_52 ?_
        replace K := K.2
        refine J_iinc (loc' := [some (vR (some o)), some (vI (y1 + 1)), some (vI (y2 + 1))]) (by decide) rfl K.1 rfl dX0_flow_55 ?_
        replace K := K.2
        refine J_goto (tgt := 4) dX0_flow_58 (by decide) ?_
        exact J_forget (loc' := [some (vR (some o)), some (vI (y1 + 1)), some (vI (y2 + 1))]) (And.intro (Or.inr rfl) (And.intro (Or.inr rfl) (And.intro (Or.inr rfl) True.intro))) K
    · replace K := K.1 c
      refine J_goto (tgt := 55) dX0_flow_22 (by decide) ?_
      refine J_iinc (loc' := [some (vR (some o)), some (vI y1), some (vI (y2 + 1))]) (by decide) rfl K.1 rfl dX0_flow_55 ?_
      replace K := K.2
      refine J_goto (tgt := 4) dX0_flow_58 (by decide) ?_
      exact J_forget (loc' := [some (vR (some o)), some (vI y1), some (vI (y2 + 1))]) (And.intro (Or.inr rfl) (And.intro (Or.inr rfl) (And.intro (Or.inr rfl) True.intro))) K
set_option maxRecDepth 20000 in
set_option maxHeartbeats 2000000 in
theorem l_X0_flow_63 {d b : Nat} {Q : Option AV → AH → Prop} {h : AH} {o : Nat} {y1 : Int} {y2 : Int} (ho : isl o) (K : (25 ≤ y2 → R32 ((gi h o 14) + 1) ∧ ∀ h1, h1 = si h o 14 ((gi h o 14) + 1) → Q (some (vI y1)) h1) ∧ (¬(25 ≤ y2) → (0 ≤ y2 ∧ y2 < 25) ∧ R32 ((gi h (o + 9) y2) + 1) ∧ (0 ≤ y2 ∧ y2 < 25) ∧ ∀ h2, h2 = si h (o + 9) y2 (min ((gi h (o + 9) y2) + 1) 99) → R32 (y2 + 1) ∧ Lp_X0_flow_63 d b Q o y1 (y2 + 1) h2)) : Lp_X0_flow_63 d b Q o y1 y2 h := by
  unfold Lp_X0_flow_63
  refine J_iload_n rfl dX0_flow_63 ?_
  refine J_bipush (by decide) (by decide) dX0_flow_64 ?_
  refine J_icmp_ge (tgt := 94) dX0_flow_66 (by decide) (fun c => ?_) (fun c => ?_)
  · replace K := K.1 c
    refine J_aload_n rfl dX0_flow_94 ?_
    refine J_dup rfl dX0_flow_95 ?_
    refine J_getI fl_RX0_55 rfl (Or.inl (gx_isl ho)) dX0_flow_96 ?_
    refine J_iconst (by decide) dX0_flow_99 ?_
    refine J_iadd K.1 dX0_flow_100 ?_
    replace K := K.2
    refine J_putI fl_RX0_55 rfl (Or.inl (gx_isl ho)) dX0_flow_101 ?_
    replace K := K _ rfl
    refine J_iload_n rfl dX0_flow_104 ?_
    exact J_ireturn rfl dX0_flow_105 K
  · replace K := K.2 c
    refine J_aload_n rfl dX0_flow_69 ?_
    refine J_getS (r := o + 9) fl_RX0_43 rfl (Or.inl (gx_isl ho)) (gx_r9 ho) dX0_flow_70 ?_
    refine J_iload_n rfl dX0_flow_73 ?_
    refine J_aload_n rfl dX0_flow_74 ?_
    refine J_getS (r := o + 9) fl_RX0_43 rfl (Or.inl (gx_isl ho)) (gx_r9 ho) dX0_flow_75 ?_
    refine J_iload_n rfl dX0_flow_78 ?_
    refine J_iaload (Or.inl (gx_a9 ho)) K.1 dX0_flow_79 ?_
    replace K := K.2
    refine J_iconst (by decide) dX0_flow_80 ?_
    refine J_iadd K.1 dX0_flow_81 ?_
    replace K := K.2
    refine J_bipush (by decide) (by decide) dX0_flow_82 ?_
    refine J_mmin ml_RX0_100 (Nat.le_of_ble_eq_true rfl) dX0_flow_84 ?_
    refine J_iastore (Or.inl (gx_a9 ho)) K.1 dX0_flow_87 ?_
    replace K := K.2
    replace K := K _ rfl
    refine J_iinc (loc' := [some (vR (some o)), some (vI y1), some (vI (y2 + 1))]) (by decide) rfl K.1 rfl dX0_flow_88 ?_
    replace K := K.2
    refine J_goto (tgt := 63) dX0_flow_91 (by decide) ?_
    exact J_forget (loc' := [some (vR (some o)), some (vI y1), some (vI (y2 + 1))]) (And.intro (Or.inr rfl) (And.intro (Or.inr rfl) (And.intro (Or.inr rfl) True.intro))) K
set_option maxRecDepth 20000 in
set_option maxHeartbeats 2000000 in
theorem w_X0_flow {d b : Nat} {Q : Option AV → AH → Prop} {h : AH} {o : Nat} (ho : isl o) (K : Lp_X0_flow_4 d b Q o 0 0 h) : WM GX (d + 2) b mX0_flow [vR (some o)] h Q := by
  refine WM_introE (loc' := [some (vR (some o)), none, none]) rfl (by decide) (Nat.le_of_ble_eq_true rfl) ?_
  refine J_iconst (by decide) dX0_flow_0 ?_
  refine J_istore_n (loc' := [some (vR (some o)), some (vI 0), none]) (by decide) rfl dX0_flow_1 ?_
  refine J_iconst (by decide) dX0_flow_2 ?_
  refine J_istore_n (loc' := [some (vR (some o)), some (vI 0), some (vI 0)]) (by decide) rfl dX0_flow_3 ?_
  exact J_forget (loc' := [some (vR (some o)), some (vI 0), some (vI 0)]) (And.intro (Or.inr rfl) (And.intro (Or.inr rfl) (And.intro (Or.inr rfl) True.intro))) K
set_option maxRecDepth 20000 in
set_option maxHeartbeats 2000000 in
theorem w_X6_keep {d b : Nat} {Q : Option AV → AH → Prop} {h : AH} {x1 : Int}  (K : (gi h 41 1 < 256 → R32 ((gi h 41 1) * 51) ∧ (0 ≤ (gi h 41 1) * 51 ∧ (gi h 41 1) * 51 < 13056) ∧ ∀ h1, h1 = si h 42 ((gi h 41 1) * 51) x1 → R32 (((gi h 41 1) * 51) + 1) ∧ (0 ≤ ((gi h 41 1) * 51) + 1 ∧ ((gi h 41 1) * 51) + 1 < 13056) ∧ ∀ h2, h2 = si h1 42 (((gi h 41 1) * 51) + 1) (gi h 1 14) → R32 (((gi h 41 1) * 51) + 2) ∧ ((0 : Int) ≤ 0 ∧ (0 : Int) ≤ ((gi h 41 1) * 51) + 2 ∧ (0 : Int) ≤ 8) ∧ (0 : Int) + 8 ≤ 8 ∧ ((((gi h 41 1) * 51) + 2) : Int) + 8 ≤ 13056 ∧ ∀ h3, h3 = cpy h2 7 0 42 (((gi h 41 1) * 51) + 2) 8 → R32 (((gi h 41 1) * 51) + 2) ∧ R32 ((((gi h 41 1) * 51) + 2) + 8) ∧ ((0 : Int) ≤ 0 ∧ (0 : Int) ≤ (((gi h 41 1) * 51) + 2) + 8 ∧ (0 : Int) ≤ 8) ∧ (0 : Int) + 8 ≤ 8 ∧ (((((gi h 41 1) * 51) + 2) + 8) : Int) + 8 ≤ 13056 ∧ ∀ h4, h4 = cpy h3 8 0 42 ((((gi h 41 1) * 51) + 2) + 8) 8 → R32 (((gi h 41 1) * 51) + 2) ∧ R32 ((((gi h 41 1) * 51) + 2) + 16) ∧ ((0 : Int) ≤ 0 ∧ (0 : Int) ≤ (((gi h 41 1) * 51) + 2) + 16 ∧ (0 : Int) ≤ 8) ∧ (0 : Int) + 8 ≤ 8 ∧ (((((gi h 41 1) * 51) + 2) + 16) : Int) + 8 ≤ 13056 ∧ ∀ h5, h5 = cpy h4 9 0 42 ((((gi h 41 1) * 51) + 2) + 16) 8 → R32 (((gi h 41 1) * 51) + 2) ∧ R32 ((((gi h 41 1) * 51) + 2) + 24) ∧ ((0 : Int) ≤ 0 ∧ (0 : Int) ≤ (((gi h 41 1) * 51) + 2) + 24 ∧ (0 : Int) ≤ 25) ∧ (0 : Int) + 25 ≤ 25 ∧ (((((gi h 41 1) * 51) + 2) + 24) : Int) + 25 ≤ 13056 ∧ ∀ h6, h6 = cpy h5 10 0 42 ((((gi h 41 1) * 51) + 2) + 24) 25 → R32 ((gi h6 41 1) + 1) ∧ ∀ h7, h7 = si h6 41 1 ((gi h6 41 1) + 1) → Q none h7) ∧ (¬(gi h 41 1 < 256) → WM GX (d + 1) 0 mX6_trim [vR (some 41)] h (fun r h8 => r = none ∧ R32 ((gi h8 41 1) * 51) ∧ (0 ≤ (gi h8 41 1) * 51 ∧ (gi h8 41 1) * 51 < 13056) ∧ ∀ h9, h9 = si h8 42 ((gi h8 41 1) * 51) x1 → R32 (((gi h8 41 1) * 51) + 1) ∧ (0 ≤ ((gi h8 41 1) * 51) + 1 ∧ ((gi h8 41 1) * 51) + 1 < 13056) ∧ ∀ h10, h10 = si h9 42 (((gi h8 41 1) * 51) + 1) (gi h8 1 14) → R32 (((gi h8 41 1) * 51) + 2) ∧ ((0 : Int) ≤ 0 ∧ (0 : Int) ≤ ((gi h8 41 1) * 51) + 2 ∧ (0 : Int) ≤ 8) ∧ (0 : Int) + 8 ≤ 8 ∧ ((((gi h8 41 1) * 51) + 2) : Int) + 8 ≤ 13056 ∧ ∀ h11, h11 = cpy h10 7 0 42 (((gi h8 41 1) * 51) + 2) 8 → R32 (((gi h8 41 1) * 51) + 2) ∧ R32 ((((gi h8 41 1) * 51) + 2) + 8) ∧ ((0 : Int) ≤ 0 ∧ (0 : Int) ≤ (((gi h8 41 1) * 51) + 2) + 8 ∧ (0 : Int) ≤ 8) ∧ (0 : Int) + 8 ≤ 8 ∧ (((((gi h8 41 1) * 51) + 2) + 8) : Int) + 8 ≤ 13056 ∧ ∀ h12, h12 = cpy h11 8 0 42 ((((gi h8 41 1) * 51) + 2) + 8) 8 → R32 (((gi h8 41 1) * 51) + 2) ∧ R32 ((((gi h8 41 1) * 51) + 2) + 16) ∧ ((0 : Int) ≤ 0 ∧ (0 : Int) ≤ (((gi h8 41 1) * 51) + 2) + 16 ∧ (0 : Int) ≤ 8) ∧ (0 : Int) + 8 ≤ 8 ∧ (((((gi h8 41 1) * 51) + 2) + 16) : Int) + 8 ≤ 13056 ∧ ∀ h13, h13 = cpy h12 9 0 42 ((((gi h8 41 1) * 51) + 2) + 16) 8 → R32 (((gi h8 41 1) * 51) + 2) ∧ R32 ((((gi h8 41 1) * 51) + 2) + 24) ∧ ((0 : Int) ≤ 0 ∧ (0 : Int) ≤ (((gi h8 41 1) * 51) + 2) + 24 ∧ (0 : Int) ≤ 25) ∧ (0 : Int) + 25 ≤ 25 ∧ (((((gi h8 41 1) * 51) + 2) + 24) : Int) + 25 ≤ 13056 ∧ ∀ h14, h14 = cpy h13 10 0 42 ((((gi h8 41 1) * 51) + 2) + 24) 25 → R32 ((gi h14 41 1) + 1) ∧ ∀ h15, h15 = si h14 41 1 ((gi h14 41 1) + 1) → Q none h15))) : WM GX (d + 2) b mX6_keep [vR (some 41), vI x1, vR (some 1)] h Q := by
  refine WM_introE (loc' := [some (vR (some 41)), some (vI x1), some (vR (some 1)), none]) rfl (by decide) (Nat.le_of_ble_eq_true rfl) ?_
  refine J_aload_n rfl dX6_keep_0 ?_
  refine J_getI fl_RX6_15 rfl (Or.inl rfl) dX6_keep_1 ?_
  refine J_sipush (by decide) (by decide) dX6_keep_4 ?_
  refine J_icmp_lt (tgt := 14) dX6_keep_7 (by decide) (fun c => ?_) (fun c => ?_)
  · replace K := K.1 c
    refine J_aload_n rfl dX6_keep_14 ?_
    refine J_getI fl_RX6_15 rfl (Or.inl rfl) dX6_keep_15 ?_
    refine J_bipush (by decide) (by decide) dX6_keep_18 ?_
    refine J_imul K.1 dX6_keep_20 ?_
    replace K := K.2
    refine J_istore_n (loc' := [some (vR (some 41)), some (vI x1), some (vR (some 1)), some (vI ((gi h 41 1) * 51))]) (by decide) rfl dX6_keep_21 ?_
    refine J_aload_n rfl dX6_keep_22 ?_
    refine J_getS (r := 42) fl_RX6_11 rfl (Or.inl rfl) rfl dX6_keep_23 ?_
    refine J_iload_n rfl dX6_keep_26 ?_
    refine J_iload_n rfl dX6_keep_27 ?_
    refine J_iastore (Or.inl rfl) K.1 dX6_keep_28 ?_
    replace K := K.2
    replace K := K _ rfl
    refine J_aload_n rfl dX6_keep_29 ?_
    refine J_getS (r := 42) fl_RX6_11 rfl (Or.inl rfl) rfl dX6_keep_30 ?_
    refine J_iload_n rfl dX6_keep_33 ?_
    refine J_iconst (by decide) dX6_keep_34 ?_
    refine J_iadd K.1 dX6_keep_35 ?_
    replace K := K.2
    refine J_aload_n rfl dX6_keep_36 ?_
    refine J_getIe fl_RX6_22 rfl (Or.inl rfl) (gi_no (by decide)) dX6_keep_37 ?_
    refine J_iastore (Or.inl rfl) K.1 dX6_keep_40 ?_
    replace K := K.2
    replace K := K _ rfl
    refine J_aload_n rfl dX6_keep_41 ?_
    refine J_getS (r := 7) fl_RX6_27 rfl (Or.inl rfl) rfl dX6_keep_42 ?_
    refine J_iconst (by decide) dX6_keep_45 ?_
    refine J_aload_n rfl dX6_keep_46 ?_
    refine J_getS (r := 42) fl_RX6_11 rfl (Or.inl rfl) rfl dX6_keep_47 ?_
    refine J_iload_n rfl dX6_keep_50 ?_
    refine J_iconst (by decide) dX6_keep_51 ?_
    refine J_iadd K.1 dX6_keep_52 ?_
    replace K := K.2
    refine J_bipush (by decide) (by decide) dX6_keep_53 ?_
    refine J_copy ml_RX6_30 (Or.inl rfl) (Or.inl rfl) K.1 K.2.1 K.2.2.1 (Nat.le_of_ble_eq_true rfl) dX6_keep_55 ?_
    replace K := K.2.2.2
    replace K := K _ rfl
    refine J_aload_n rfl dX6_keep_58 ?_
    refine J_getS (r := 8) fl_RX6_36 rfl (Or.inl rfl) rfl dX6_keep_59 ?_
    refine J_iconst (by decide) dX6_keep_62 ?_
    refine J_aload_n rfl dX6_keep_63 ?_
    refine J_getS (r := 42) fl_RX6_11 rfl (Or.inl rfl) rfl dX6_keep_64 ?_
    refine J_iload_n rfl dX6_keep_67 ?_
    refine J_iconst (by decide) dX6_keep_68 ?_
    refine J_iadd K.1 dX6_keep_69 ?_
    replace K := K.2
    refine J_bipush (by decide) (by decide) dX6_keep_70 ?_
    refine J_iadd K.1 dX6_keep_72 ?_
    replace K := K.2
    refine J_bipush (by decide) (by decide) dX6_keep_73 ?_
    refine J_copy ml_RX6_30 (Or.inl rfl) (Or.inl rfl) K.1 K.2.1 K.2.2.1 (Nat.le_of_ble_eq_true rfl) dX6_keep_75 ?_
    replace K := K.2.2.2
    replace K := K _ rfl
    refine J_aload_n rfl dX6_keep_78 ?_
    refine J_getS (r := 9) fl_RX6_39 rfl (Or.inl rfl) rfl dX6_keep_79 ?_
    refine J_iconst (by decide) dX6_keep_82 ?_
    refine J_aload_n rfl dX6_keep_83 ?_
    refine J_getS (r := 42) fl_RX6_11 rfl (Or.inl rfl) rfl dX6_keep_84 ?_
    refine J_iload_n rfl dX6_keep_87 ?_
    refine J_iconst (by decide) dX6_keep_88 ?_
    refine J_iadd K.1 dX6_keep_89 ?_
    replace K := K.2
    refine J_bipush (by decide) (by decide) dX6_keep_90 ?_
    refine J_iadd K.1 dX6_keep_92 ?_
    replace K := K.2
    refine J_bipush (by decide) (by decide) dX6_keep_93 ?_
    refine J_copy ml_RX6_30 (Or.inl rfl) (Or.inl rfl) K.1 K.2.1 K.2.2.1 (Nat.le_of_ble_eq_true rfl) dX6_keep_95 ?_
    replace K := K.2.2.2
    replace K := K _ rfl
    refine J_aload_n rfl dX6_keep_98 ?_
    refine J_getS (r := 10) fl_RX6_42 rfl (Or.inl rfl) rfl dX6_keep_99 ?_
    refine J_iconst (by decide) dX6_keep_102 ?_
    refine J_aload_n rfl dX6_keep_103 ?_
    refine J_getS (r := 42) fl_RX6_11 rfl (Or.inl rfl) rfl dX6_keep_104 ?_
    refine J_iload_n rfl dX6_keep_107 ?_
    refine J_iconst (by decide) dX6_keep_108 ?_
    refine J_iadd K.1 dX6_keep_109 ?_
    replace K := K.2
    refine J_bipush (by decide) (by decide) dX6_keep_110 ?_
    refine J_iadd K.1 dX6_keep_112 ?_
    replace K := K.2
    refine J_bipush (by decide) (by decide) dX6_keep_113 ?_
    refine J_copy ml_RX6_30 (Or.inl rfl) (Or.inl rfl) K.1 K.2.1 K.2.2.1 (Nat.le_of_ble_eq_true rfl) dX6_keep_115 ?_
    replace K := K.2.2.2
    replace K := K _ rfl
    refine J_aload_n rfl dX6_keep_118 ?_
    refine J_dup rfl dX6_keep_119 ?_
    refine J_getI fl_RX6_15 rfl (Or.inl rfl) dX6_keep_120 ?_
    refine J_iconst (by decide) dX6_keep_123 ?_
    refine J_iadd K.1 dX6_keep_124 ?_
    replace K := K.2
    refine J_putI fl_RX6_15 rfl (Or.inl rfl) dX6_keep_125 ?_
    replace K := K _ rfl
    exact J_return rfl dX6_keep_128 K
  · replace K := K.2 c
    refine J_aload_n rfl dX6_keep_10 ?_
    refine J_b0 (J_callV (b1 := 0) (ci := 6) (vs := []) (rest := []) (Or.inl rfl) ml_RX6_19 rfl (by decide) rfl rfl (Or.inl rfl) (Nat.le_of_ble_eq_true rfl) rfl dX6_keep_11 (WM_mono K (fun r h8 K => ?_)))
    obtain ⟨rfl, K⟩ := K
    show J _ _ _ _ _ _ _ [] _
    refine J_aload_n rfl dX6_keep_14 ?_
    refine J_getI fl_RX6_15 rfl (Or.inl rfl) dX6_keep_15 ?_
    refine J_bipush (by decide) (by decide) dX6_keep_18 ?_
    refine J_imul K.1 dX6_keep_20 ?_
    replace K := K.2
    refine J_istore_n (loc' := [some (vR (some 41)), some (vI x1), some (vR (some 1)), some (vI _)]) (by decide) rfl dX6_keep_21 ?_
    refine J_aload_n rfl dX6_keep_22 ?_
    refine J_getS (r := 42) fl_RX6_11 rfl (Or.inl rfl) rfl dX6_keep_23 ?_
    refine J_iload_n rfl dX6_keep_26 ?_
    refine J_iload_n rfl dX6_keep_27 ?_
    refine J_iastore (Or.inl rfl) K.1 dX6_keep_28 ?_
    replace K := K.2
    replace K := K _ rfl
    refine J_aload_n rfl dX6_keep_29 ?_
    refine J_getS (r := 42) fl_RX6_11 rfl (Or.inl rfl) rfl dX6_keep_30 ?_
    refine J_iload_n rfl dX6_keep_33 ?_
    refine J_iconst (by decide) dX6_keep_34 ?_
    refine J_iadd K.1 dX6_keep_35 ?_
    replace K := K.2
    refine J_aload_n rfl dX6_keep_36 ?_
    refine J_getIe fl_RX6_22 rfl (Or.inl rfl) (gi_no (by decide)) dX6_keep_37 ?_
    refine J_iastore (Or.inl rfl) K.1 dX6_keep_40 ?_
    replace K := K.2
    replace K := K _ rfl
    refine J_aload_n rfl dX6_keep_41 ?_
    refine J_getS (r := 7) fl_RX6_27 rfl (Or.inl rfl) rfl dX6_keep_42 ?_
    refine J_iconst (by decide) dX6_keep_45 ?_
    refine J_aload_n rfl dX6_keep_46 ?_
    refine J_getS (r := 42) fl_RX6_11 rfl (Or.inl rfl) rfl dX6_keep_47 ?_
    refine J_iload_n rfl dX6_keep_50 ?_
    refine J_iconst (by decide) dX6_keep_51 ?_
    refine J_iadd K.1 dX6_keep_52 ?_
    replace K := K.2
    refine J_bipush (by decide) (by decide) dX6_keep_53 ?_
    refine J_copy ml_RX6_30 (Or.inl rfl) (Or.inl rfl) K.1 K.2.1 K.2.2.1 (Nat.le_of_ble_eq_true rfl) dX6_keep_55 ?_
    replace K := K.2.2.2
    replace K := K _ rfl
    refine J_aload_n rfl dX6_keep_58 ?_
    refine J_getS (r := 8) fl_RX6_36 rfl (Or.inl rfl) rfl dX6_keep_59 ?_
    refine J_iconst (by decide) dX6_keep_62 ?_
    refine J_aload_n rfl dX6_keep_63 ?_
    refine J_getS (r := 42) fl_RX6_11 rfl (Or.inl rfl) rfl dX6_keep_64 ?_
    refine J_iload_n rfl dX6_keep_67 ?_
    refine J_iconst (by decide) dX6_keep_68 ?_
    refine J_iadd K.1 dX6_keep_69 ?_
    replace K := K.2
    refine J_bipush (by decide) (by decide) dX6_keep_70 ?_
    refine J_iadd K.1 dX6_keep_72 ?_
    replace K := K.2
    refine J_bipush (by decide) (by decide) dX6_keep_73 ?_
    refine J_copy ml_RX6_30 (Or.inl rfl) (Or.inl rfl) K.1 K.2.1 K.2.2.1 (Nat.le_of_ble_eq_true rfl) dX6_keep_75 ?_
    replace K := K.2.2.2
    replace K := K _ rfl
    refine J_aload_n rfl dX6_keep_78 ?_
    refine J_getS (r := 9) fl_RX6_39 rfl (Or.inl rfl) rfl dX6_keep_79 ?_
    refine J_iconst (by decide) dX6_keep_82 ?_
    refine J_aload_n rfl dX6_keep_83 ?_
    refine J_getS (r := 42) fl_RX6_11 rfl (Or.inl rfl) rfl dX6_keep_84 ?_
    refine J_iload_n rfl dX6_keep_87 ?_
    refine J_iconst (by decide) dX6_keep_88 ?_
    refine J_iadd K.1 dX6_keep_89 ?_
    replace K := K.2
    refine J_bipush (by decide) (by decide) dX6_keep_90 ?_
    refine J_iadd K.1 dX6_keep_92 ?_
    replace K := K.2
    refine J_bipush (by decide) (by decide) dX6_keep_93 ?_
    refine J_copy ml_RX6_30 (Or.inl rfl) (Or.inl rfl) K.1 K.2.1 K.2.2.1 (Nat.le_of_ble_eq_true rfl) dX6_keep_95 ?_
    replace K := K.2.2.2
    replace K := K _ rfl
    refine J_aload_n rfl dX6_keep_98 ?_
    refine J_getS (r := 10) fl_RX6_42 rfl (Or.inl rfl) rfl dX6_keep_99 ?_
    refine J_iconst (by decide) dX6_keep_102 ?_
    refine J_aload_n rfl dX6_keep_103 ?_
    refine J_getS (r := 42) fl_RX6_11 rfl (Or.inl rfl) rfl dX6_keep_104 ?_
    refine J_iload_n rfl dX6_keep_107 ?_
    refine J_iconst (by decide) dX6_keep_108 ?_
    refine J_iadd K.1 dX6_keep_109 ?_
    replace K := K.2
    refine J_bipush (by decide) (by decide) dX6_keep_110 ?_
    refine J_iadd K.1 dX6_keep_112 ?_
    replace K := K.2
    refine J_bipush (by decide) (by decide) dX6_keep_113 ?_
    refine J_copy ml_RX6_30 (Or.inl rfl) (Or.inl rfl) K.1 K.2.1 K.2.2.1 (Nat.le_of_ble_eq_true rfl) dX6_keep_115 ?_
    replace K := K.2.2.2
    replace K := K _ rfl
    refine J_aload_n rfl dX6_keep_118 ?_
    refine J_dup rfl dX6_keep_119 ?_
    refine J_getI fl_RX6_15 rfl (Or.inl rfl) dX6_keep_120 ?_
    refine J_iconst (by decide) dX6_keep_123 ?_
    refine J_iadd K.1 dX6_keep_124 ?_
    replace K := K.2
    refine J_putI fl_RX6_15 rfl (Or.inl rfl) dX6_keep_125 ?_
    replace K := K _ rfl
    exact J_return rfl dX6_keep_128 K
set_option maxRecDepth 20000 in
set_option maxHeartbeats 2000000 in
theorem w_X7_act {d b : Nat} {Q : Option AV → AH → Prop} {h : AH} {x1 : Int} {x2 : Int} {x3 : Int}  (K : WM GX (d + 3) 0 mX6_keep [vR (some 41), vI x1, vR (some 1)] h (fun r h1 => r = none ∧ (x1 = 0 → (0 ≤ x2 ∧ x2 < 8) ∧ ∀ h2, h2 = si h1 7 x2 (-1) → (0 ≤ x2 ∧ x2 < 8) ∧ ∀ h3, h3 = si h2 8 x2 0 → Q (some (vI 0)) h3) ∧ (¬(x1 = 0) → (x1 = 1 → (0 ≤ x2 ∧ x2 < 8) ∧ ((0 : Int) ≤ (gi h1 8 x2) ∧ ((gi h1 8 x2) : Int) < 25) ∧ (0 ≤ x2 ∧ x2 < 8) ∧ ∀ h4, h4 = si h1 8 x2 (zbes (gi h1 8 x2) x3) → (0 ≤ x2 ∧ x2 < 8) ∧ Q (some (vI (zbes (gi h1 8 x2) x3))) h4) ∧ (¬(x1 = 1) → (x1 = 2 → (0 ≤ x2 ∧ x2 < 8) ∧ (0 ≤ gi h1 8 x2 ∧ gi h1 8 x2 < 25) ∧ WM GX (d + 3) 0 mX1_catchOf [vR (some 38), vR (some 1), vI x2, vI (gi h1 8 x2), vI (gi h1 10 (gi h1 8 x2))] h1 (fun r h5 => ∃ u4, r = some (vI u4) ∧ WM GX (d + 3) 0 mX0_take [vR (some 1), vI x2, vI u4] h5 (fun r h6 => r = none ∧ Q (some (vI u4)) h6))) ∧ (¬(x1 = 2) → (x1 = 3 → (0 ≤ x2 ∧ x2 < 8) ∧ (0 ≤ x2 ∧ x2 < 8) ∧ ∀ h7, h7 = si h1 7 x2 x3 → (0 ≤ x2 ∧ x2 < 8) ∧ ∀ h8, h8 = si h7 8 x2 (-1) → (0 ≤ x2 ∧ x2 < 8) ∧ ∀ h9, h9 = si h8 9 x2 0 → Q (some (vI (gi h1 9 x2))) h9) ∧ (¬(x1 = 3) → WM GX (d + 3) 0 mX0_flow [vR (some 1)] h1 (fun r h10 => ∃ u8, r = some (vI u8) ∧ Q (some (vI u8)) h10))))))) : WM GX (d + 4) b mX7_act [vR (some 0), vI x1, vI x2, vI x3] h Q := by
  refine WM_introE (loc' := [some (vR (some 0)), some (vI x1), some (vI x2), some (vI x3), none, none, none]) rfl (by decide) (Nat.le_of_ble_eq_true rfl) ?_
  refine J_aload_n rfl dX7_act_0 ?_
  refine J_getS (r := 41) fl_RX7_57 rfl (Or.inl rfl) rfl dX7_act_1 ?_
  refine J_iload_n rfl dX7_act_4 ?_
  refine J_aload_n rfl dX7_act_5 ?_
  refine J_getS (r := 1) fl_RX7_10 rfl (Or.inl rfl) rfl dX7_act_6 ?_
  refine J_b0 (J_callV (b1 := 0) (ci := 6) (vs := [vI x1, vR (some 1)]) (rest := []) (Or.inr rfl) ml_RX7_322 rfl (by decide) rfl rfl (Or.inl rfl) (Nat.le_of_ble_eq_true rfl) rfl dX7_act_9 (WM_mono K (fun r h1 K => ?_)))
  obtain ⟨rfl, K⟩ := K
  show J _ _ _ _ _ _ _ [] _
  refine J_iload_n rfl dX7_act_12 ?_
  by_cases c : x1 = 0
  · replace K := K.1 c
    refine J_tsIn (tgt := 44) 0 c (by decide) (by decide) rfl dX7_act_13 (by decide) ?_
    refine J_aload_n rfl dX7_act_44 ?_
    refine J_getS (r := 1) fl_RX7_10 rfl (Or.inl rfl) rfl dX7_act_45 ?_
    refine J_getS (r := 7) fl_RX7_126 rfl (Or.inl rfl) rfl dX7_act_48 ?_
    refine J_iload_n rfl dX7_act_51 ?_
    refine J_iconst (by decide) dX7_act_52 ?_
    refine J_iastore (Or.inl rfl) K.1 dX7_act_53 ?_
    replace K := K.2
    replace K := K _ rfl
    refine J_aload_n rfl dX7_act_54 ?_
    refine J_getS (r := 1) fl_RX7_10 rfl (Or.inl rfl) rfl dX7_act_55 ?_
    refine J_getS (r := 8) fl_RX7_129 rfl (Or.inl rfl) rfl dX7_act_58 ?_
    refine J_iload_n rfl dX7_act_61 ?_
    refine J_iconst (by decide) dX7_act_62 ?_
    refine J_iastore (Or.inl rfl) K.1 dX7_act_63 ?_
    replace K := K.2
    replace K := K _ rfl
    refine J_iconst (by decide) dX7_act_64 ?_
    exact J_ireturn rfl dX7_act_65 K
  replace K := K.2 c
  have cc2 := c
  clear c
  by_cases c : x1 = 1
  · replace K := K.1 c
    refine J_tsIn (tgt := 66) 1 c (by decide) (by decide) rfl dX7_act_13 (by decide) ?_
    refine J_aload_n rfl dX7_act_66 ?_
    refine J_getS (r := 1) fl_RX7_10 rfl (Or.inl rfl) rfl dX7_act_67 ?_
    refine J_getS (r := 8) fl_RX7_129 rfl (Or.inl rfl) rfl dX7_act_70 ?_
    refine J_iload_n rfl dX7_act_73 ?_
    refine J_aload_n rfl dX7_act_74 ?_
    refine J_getS (r := 1) fl_RX7_10 rfl (Or.inl rfl) rfl dX7_act_75 ?_
    refine J_getS (r := 8) fl_RX7_129 rfl (Or.inl rfl) rfl dX7_act_78 ?_
    refine J_iload_n rfl dX7_act_81 ?_
    refine J_iaload (Or.inl rfl) K.1 dX7_act_82 ?_
    replace K := K.2
    refine J_iload_n rfl dX7_act_83 ?_
    refine J_b0 (J_callS (b1 := 0) (vs := [vI _, vI x3]) (rest := [vI x2, vR (some 8)]) (Or.inr rfl) ml_RX7_326 rfl (by decide) (Nat.le_of_ble_eq_true rfl) rfl dX7_act_84 (c_X0_beside  K.1 ?_))
    replace K := K.2
    show J _ _ _ _ _ _ _ [vI _, vI x2, vR (some 8)] _
    refine J_iastore (Or.inl rfl) K.1 dX7_act_87 ?_
    replace K := K.2
    replace K := K _ rfl
    refine J_aload_n rfl dX7_act_88 ?_
    refine J_getS (r := 1) fl_RX7_10 rfl (Or.inl rfl) rfl dX7_act_89 ?_
    refine J_getS (r := 8) fl_RX7_129 rfl (Or.inl rfl) rfl dX7_act_92 ?_
    refine J_iload_n rfl dX7_act_95 ?_
    refine J_ialoade (Or.inl rfl) K.1 gi_eq dX7_act_96 ?_
    replace K := K.2
    exact J_ireturn rfl dX7_act_97 K
  replace K := K.2 c
  have cc3 := c
  clear c
  by_cases c : x1 = 2
  · replace K := K.1 c
    refine J_tsIn (tgt := 98) 2 c (by decide) (by decide) rfl dX7_act_13 (by decide) ?_
    refine J_aload_n rfl dX7_act_98 ?_
    refine J_getS (r := 1) fl_RX7_10 rfl (Or.inl rfl) rfl dX7_act_99 ?_
    refine J_getS (r := 8) fl_RX7_129 rfl (Or.inl rfl) rfl dX7_act_102 ?_
    refine J_iload_n rfl dX7_act_105 ?_
    refine J_iaload (Or.inl rfl) K.1 dX7_act_106 ?_
    replace K := K.2
    refine J_istore (loc' := [some (vR (some 0)), some (vI x1), some (vI x2), some (vI x3), some (vI _), none, none]) (by decide) rfl dX7_act_107 ?_
    refine J_aload_n rfl dX7_act_109 ?_
    refine J_getS (r := 38) fl_RX7_50 rfl (Or.inl rfl) rfl dX7_act_110 ?_
    refine J_aload_n rfl dX7_act_113 ?_
    refine J_getS (r := 1) fl_RX7_10 rfl (Or.inl rfl) rfl dX7_act_114 ?_
    refine J_iload_n rfl dX7_act_117 ?_
    refine J_iload rfl dX7_act_118 ?_
    refine J_aload_n rfl dX7_act_120 ?_
    refine J_getS (r := 1) fl_RX7_10 rfl (Or.inl rfl) rfl dX7_act_121 ?_
    refine J_getS (r := 10) fl_RX7_155 rfl (Or.inl rfl) rfl dX7_act_124 ?_
    refine J_iload rfl dX7_act_127 ?_
    refine J_iaload (Or.inl rfl) K.1 dX7_act_129 ?_
    replace K := K.2
    refine J_b0 (J_callV (b1 := 0) (ci := 1) (vs := [vR (some 1), vI x2, vI _, vI _]) (rest := []) (Or.inr rfl) ml_RX7_161 rfl (by decide) rfl rfl (Or.inl rfl) (Nat.le_of_ble_eq_true rfl) rfl dX7_act_130 (WM_mono K (fun r h5 K => ?_)))
    obtain ⟨u4, rfl, K⟩ := K
    show J _ _ _ _ _ _ _ [vI u4] _
    refine J_istore (loc' := [some (vR (some 0)), some (vI x1), some (vI x2), some (vI x3), some (vI _), some (vI u4), none]) (by decide) rfl dX7_act_133 ?_
    refine J_aload_n rfl dX7_act_135 ?_
    refine J_getS (r := 1) fl_RX7_10 rfl (Or.inl rfl) rfl dX7_act_136 ?_
    refine J_iload_n rfl dX7_act_139 ?_
    refine J_iload rfl dX7_act_140 ?_
    refine J_b0 (J_callV (b1 := 0) (ci := 0) (vs := [vI x2, vI u4]) (rest := []) (Or.inr rfl) ml_RX7_292 rfl (by decide) rfl rfl (Or.inl rfl) (Nat.le_of_ble_eq_true rfl) rfl dX7_act_142 (WM_mono K (fun r h6 K => ?_)))
    obtain ⟨rfl, K⟩ := K
    show J _ _ _ _ _ _ _ [] _
    refine J_iload rfl dX7_act_145 ?_
    exact J_ireturn rfl dX7_act_147 K
  replace K := K.2 c
  have cc6 := c
  clear c
  by_cases c : x1 = 3
  · replace K := K.1 c
    refine J_tsIn (tgt := 148) 3 c (by decide) (by decide) rfl dX7_act_13 (by decide) ?_
    refine J_aload_n rfl dX7_act_148 ?_
    refine J_getS (r := 1) fl_RX7_10 rfl (Or.inl rfl) rfl dX7_act_149 ?_
    refine J_getS (r := 9) fl_RX7_132 rfl (Or.inl rfl) rfl dX7_act_152 ?_
    refine J_iload_n rfl dX7_act_155 ?_
    refine J_iaload (Or.inl rfl) K.1 dX7_act_156 ?_
    replace K := K.2
    refine J_istore (loc' := [some (vR (some 0)), some (vI x1), some (vI x2), some (vI x3), none, none, some (vI _)]) (by decide) rfl dX7_act_157 ?_
    refine J_aload_n rfl dX7_act_159 ?_
    refine J_getS (r := 1) fl_RX7_10 rfl (Or.inl rfl) rfl dX7_act_160 ?_
    refine J_getS (r := 7) fl_RX7_126 rfl (Or.inl rfl) rfl dX7_act_163 ?_
    refine J_iload_n rfl dX7_act_166 ?_
    refine J_iload_n rfl dX7_act_167 ?_
    refine J_iastore (Or.inl rfl) K.1 dX7_act_168 ?_
    replace K := K.2
    replace K := K _ rfl
    refine J_aload_n rfl dX7_act_169 ?_
    refine J_getS (r := 1) fl_RX7_10 rfl (Or.inl rfl) rfl dX7_act_170 ?_
    refine J_getS (r := 8) fl_RX7_129 rfl (Or.inl rfl) rfl dX7_act_173 ?_
    refine J_iload_n rfl dX7_act_176 ?_
    refine J_iconst (by decide) dX7_act_177 ?_
    refine J_iastore (Or.inl rfl) K.1 dX7_act_178 ?_
    replace K := K.2
    replace K := K _ rfl
    refine J_aload_n rfl dX7_act_179 ?_
    refine J_getS (r := 1) fl_RX7_10 rfl (Or.inl rfl) rfl dX7_act_180 ?_
    refine J_getS (r := 9) fl_RX7_132 rfl (Or.inl rfl) rfl dX7_act_183 ?_
    refine J_iload_n rfl dX7_act_186 ?_
    refine J_iconst (by decide) dX7_act_187 ?_
    refine J_iastore (Or.inl rfl) K.1 dX7_act_188 ?_
    replace K := K.2
    replace K := K _ rfl
    refine J_iload rfl dX7_act_189 ?_
    exact J_ireturn rfl dX7_act_191 K
  replace K := K.2 c
  have cc7 := c
  clear c
  refine J_tsOut (tgt := 192) (by omega) dX7_act_13 (by decide) ?_
  refine J_aload_n rfl dX7_act_192 ?_
  refine J_getS (r := 1) fl_RX7_10 rfl (Or.inl rfl) rfl dX7_act_193 ?_
  refine J_b0 (J_callV (b1 := 0) (ci := 0) (vs := []) (rest := []) (Or.inr rfl) ml_RX7_302 rfl (by decide) rfl rfl (Or.inl rfl) (Nat.le_of_ble_eq_true rfl) rfl dX7_act_196 (WM_mono K (fun r h10 K => ?_)))
  obtain ⟨u8, rfl, K⟩ := K
  show J _ _ _ _ _ _ _ [vI u8] _
  exact J_ireturn rfl dX7_act_199 K
set_option maxRecDepth 20000 in
set_option maxHeartbeats 2000000 in
theorem w_X7_refusal {d b : Nat} {Q : Option AV → AH → Prop} {h : AH} {x1 : Int} {x2 : Int} {x3 : Int}  (K : (x1 = 4 → (999 ≤ gi h 1 14 → Q (some (vI (-3))) h) ∧ (¬(999 ≤ gi h 1 14) → Q (some (vI 0)) h)) ∧ (¬(x1 = 4) → (x1 = 1 → (x3 < 1 → Q (some (vI (-1))) h) ∧ (¬(x3 < 1) → (x3 ≤ 4 → ((0 : Int) ≤ x2 ∧ x2 < gi h 1 2 → (x1 = 3 → ((0 : Int) ≤ x3 ∧ x3 < gi h 1 0 → (0 ≤ x2 ∧ x2 < 8) ∧ (x1 = 0 → (0 ≤ x2 ∧ x2 < 8) ∧ (gi h 7 x2 = (-1) → Q (some (vI (-3))) h) ∧ (¬(gi h 7 x2 = (-1)) → WM GX (d + 3) 0 mX1_isBarred [vR (some 38), vR (some 1), vI x2] h (fun r h8 => ∃ u8, r = some (vI u8) ∧ (u8 = 0 → Q (some (vI 0)) h8) ∧ (¬(u8 = 0) → Q (some (vI (-3))) h8)))) ∧ (¬(x1 = 0) → (x1 = 1 → (gi h 8 x2 = (-1) → Q (some (vI (-3))) h) ∧ (¬(gi h 8 x2 = (-1)) → ((0 : Int) ≤ (gi h 8 x2) ∧ ((gi h 8 x2) : Int) < 25) ∧ (zbes (gi h 8 x2) x3 = (-1) → Q (some (vI (-3))) h) ∧ (¬(zbes (gi h 8 x2) x3 = (-1)) → Q (some (vI 0)) h))) ∧ (¬(x1 = 1) → (x1 = 2 → (gi h 8 x2 = (-1) → Q (some (vI (-3))) h) ∧ (¬(gi h 8 x2 = (-1)) → Q (some (vI 0)) h)) ∧ (¬(x1 = 2) → (gi h 8 x2 = 0 → (0 ≤ gi h 1 2 ∧ gi h 1 2 ≤ 8) ∧ (dIn (gi h 7) x3 (gi h 1 2).toNat 0 = (-1) → WM GX (d + 3) 0 mX1_isFitting [vR (some 38), vR (some 1), vI x2, vI x3] h (fun r h7 => ∃ u7, r = some (vI u7) ∧ (u7 = 0 → Q (some (vI (-3))) h7) ∧ (¬(u7 = 0) → Q (some (vI 0)) h7))) ∧ (¬(dIn (gi h 7) x3 (gi h 1 2).toNat 0 = (-1)) → Q (some (vI (-3))) h)) ∧ (¬(gi h 8 x2 = 0) → Q (some (vI (-3))) h))))) ∧ (¬((0 : Int) ≤ x3 ∧ x3 < gi h 1 0) → Q (some (vI (-2))) h)) ∧ (¬(x1 = 3) → (0 ≤ x2 ∧ x2 < 8) ∧ (x1 = 0 → (0 ≤ x2 ∧ x2 < 8) ∧ (gi h 7 x2 = (-1) → Q (some (vI (-3))) h) ∧ (¬(gi h 7 x2 = (-1)) → WM GX (d + 3) 0 mX1_isBarred [vR (some 38), vR (some 1), vI x2] h (fun r h6 => ∃ u6, r = some (vI u6) ∧ (u6 = 0 → Q (some (vI 0)) h6) ∧ (¬(u6 = 0) → Q (some (vI (-3))) h6)))) ∧ (¬(x1 = 0) → (x1 = 1 → (gi h 8 x2 = (-1) → Q (some (vI (-3))) h) ∧ (¬(gi h 8 x2 = (-1)) → ((0 : Int) ≤ (gi h 8 x2) ∧ ((gi h 8 x2) : Int) < 25) ∧ (zbes (gi h 8 x2) x3 = (-1) → Q (some (vI (-3))) h) ∧ (¬(zbes (gi h 8 x2) x3 = (-1)) → Q (some (vI 0)) h))) ∧ (¬(x1 = 1) → (x1 = 2 → (gi h 8 x2 = (-1) → Q (some (vI (-3))) h) ∧ (¬(gi h 8 x2 = (-1)) → Q (some (vI 0)) h)) ∧ (¬(x1 = 2) → (gi h 8 x2 = 0 → (0 ≤ gi h 1 2 ∧ gi h 1 2 ≤ 8) ∧ (dIn (gi h 7) x3 (gi h 1 2).toNat 0 = (-1) → WM GX (d + 3) 0 mX1_isFitting [vR (some 38), vR (some 1), vI x2, vI x3] h (fun r h5 => ∃ u5, r = some (vI u5) ∧ (u5 = 0 → Q (some (vI (-3))) h5) ∧ (¬(u5 = 0) → Q (some (vI 0)) h5))) ∧ (¬(dIn (gi h 7) x3 (gi h 1 2).toNat 0 = (-1)) → Q (some (vI (-3))) h)) ∧ (¬(gi h 8 x2 = 0) → Q (some (vI (-3))) h)))))) ∧ (¬((0 : Int) ≤ x2 ∧ x2 < gi h 1 2) → Q (some (vI (-2))) h)) ∧ (¬(x3 ≤ 4) → Q (some (vI (-1))) h))) ∧ (¬(x1 = 1) → ((0 : Int) ≤ x2 ∧ x2 < gi h 1 2 → (x1 = 3 → ((0 : Int) ≤ x3 ∧ x3 < gi h 1 0 → (0 ≤ x2 ∧ x2 < 8) ∧ (x1 = 0 → (0 ≤ x2 ∧ x2 < 8) ∧ (gi h 7 x2 = (-1) → Q (some (vI (-3))) h) ∧ (¬(gi h 7 x2 = (-1)) → WM GX (d + 3) 0 mX1_isBarred [vR (some 38), vR (some 1), vI x2] h (fun r h4 => ∃ u4, r = some (vI u4) ∧ (u4 = 0 → Q (some (vI 0)) h4) ∧ (¬(u4 = 0) → Q (some (vI (-3))) h4)))) ∧ (¬(x1 = 0) → (x1 = 1 → (gi h 8 x2 = (-1) → Q (some (vI (-3))) h) ∧ (¬(gi h 8 x2 = (-1)) → ((0 : Int) ≤ (gi h 8 x2) ∧ ((gi h 8 x2) : Int) < 25) ∧ (zbes (gi h 8 x2) x3 = (-1) → Q (some (vI (-3))) h) ∧ (¬(zbes (gi h 8 x2) x3 = (-1)) → Q (some (vI 0)) h))) ∧ (¬(x1 = 1) → (x1 = 2 → (gi h 8 x2 = (-1) → Q (some (vI (-3))) h) ∧ (¬(gi h 8 x2 = (-1)) → Q (some (vI 0)) h)) ∧ (¬(x1 = 2) → (gi h 8 x2 = 0 → (0 ≤ gi h 1 2 ∧ gi h 1 2 ≤ 8) ∧ (dIn (gi h 7) x3 (gi h 1 2).toNat 0 = (-1) → WM GX (d + 3) 0 mX1_isFitting [vR (some 38), vR (some 1), vI x2, vI x3] h (fun r h3 => ∃ u3, r = some (vI u3) ∧ (u3 = 0 → Q (some (vI (-3))) h3) ∧ (¬(u3 = 0) → Q (some (vI 0)) h3))) ∧ (¬(dIn (gi h 7) x3 (gi h 1 2).toNat 0 = (-1)) → Q (some (vI (-3))) h)) ∧ (¬(gi h 8 x2 = 0) → Q (some (vI (-3))) h))))) ∧ (¬((0 : Int) ≤ x3 ∧ x3 < gi h 1 0) → Q (some (vI (-2))) h)) ∧ (¬(x1 = 3) → (0 ≤ x2 ∧ x2 < 8) ∧ (x1 = 0 → (0 ≤ x2 ∧ x2 < 8) ∧ (gi h 7 x2 = (-1) → Q (some (vI (-3))) h) ∧ (¬(gi h 7 x2 = (-1)) → WM GX (d + 3) 0 mX1_isBarred [vR (some 38), vR (some 1), vI x2] h (fun r h2 => ∃ u2, r = some (vI u2) ∧ (u2 = 0 → Q (some (vI 0)) h2) ∧ (¬(u2 = 0) → Q (some (vI (-3))) h2)))) ∧ (¬(x1 = 0) → (x1 = 1 → (gi h 8 x2 = (-1) → Q (some (vI (-3))) h) ∧ (¬(gi h 8 x2 = (-1)) → ((0 : Int) ≤ (gi h 8 x2) ∧ ((gi h 8 x2) : Int) < 25) ∧ (zbes (gi h 8 x2) x3 = (-1) → Q (some (vI (-3))) h) ∧ (¬(zbes (gi h 8 x2) x3 = (-1)) → Q (some (vI 0)) h))) ∧ (¬(x1 = 1) → (x1 = 2 → (gi h 8 x2 = (-1) → Q (some (vI (-3))) h) ∧ (¬(gi h 8 x2 = (-1)) → Q (some (vI 0)) h)) ∧ (¬(x1 = 2) → (gi h 8 x2 = 0 → (0 ≤ gi h 1 2 ∧ gi h 1 2 ≤ 8) ∧ (dIn (gi h 7) x3 (gi h 1 2).toNat 0 = (-1) → WM GX (d + 3) 0 mX1_isFitting [vR (some 38), vR (some 1), vI x2, vI x3] h (fun r h1 => ∃ u1, r = some (vI u1) ∧ (u1 = 0 → Q (some (vI (-3))) h1) ∧ (¬(u1 = 0) → Q (some (vI 0)) h1))) ∧ (¬(dIn (gi h 7) x3 (gi h 1 2).toNat 0 = (-1)) → Q (some (vI (-3))) h)) ∧ (¬(gi h 8 x2 = 0) → Q (some (vI (-3))) h)))))) ∧ (¬((0 : Int) ≤ x2 ∧ x2 < gi h 1 2) → Q (some (vI (-2))) h)))) : WM GX (d + 4) b mX7_refusal [vR (some 0), vI x1, vI x2, vI x3] h Q := by
  refine WM_introE (loc' := [some (vR (some 0)), some (vI x1), some (vI x2), some (vI x3), none, none]) rfl (by decide) (Nat.le_of_ble_eq_true rfl) ?_
  refine J_iload_n rfl dX7_refusal_0 ?_
  refine J_iconst (by decide) dX7_refusal_1 ?_
  refine J_icmp_ne (tgt := 25) dX7_refusal_2 (by decide) (fun c => ?_) (fun c => ?_)
  · replace K := K.2 c
    refine J_iload_n rfl dX7_refusal_25 ?_
    refine J_iconst (by decide) dX7_refusal_26 ?_
    refine J_icmp_ne (tgt := 42) dX7_refusal_27 (by decide) (fun c => ?_) (fun c => ?_)
    · replace K := K.2 c
      refine J_aload_n rfl dX7_refusal_42 ?_
      refine J_getS (r := 1) fl_RX7_10 rfl (Or.inl rfl) rfl dX7_refusal_43 ?_
      refine J_iload_n rfl dX7_refusal_46 ?_
      refine J_b0 (J_callV (b1 := 0) (ci := 0) (vs := [vI x2]) (rest := []) (Or.inr rfl) ml_RX7_138 rfl (by decide) rfl rfl (Or.inl rfl) (Nat.le_of_ble_eq_true rfl) rfl dX7_refusal_47 (c_X0_isDoor (by decide)  ?_))
      show J _ _ _ _ _ _ _ [vI (b2i ((0 : Int) ≤ x2 ∧ x2 < gi h 1 2))] _
      refine J_if_ne (tgt := 56) dX7_refusal_50 (by decide) (fun c => ?_) (fun c => ?_)
      · replace K := K.1 (b2i_n0.mp c)
        refine J_iload_n rfl dX7_refusal_56 ?_
        refine J_iconst (by decide) dX7_refusal_57 ?_
        refine J_icmp_ne (tgt := 75) dX7_refusal_58 (by decide) (fun c => ?_) (fun c => ?_)
        · replace K := K.2 c
          refine J_aload_n rfl dX7_refusal_75 ?_
          refine J_getS (r := 1) fl_RX7_10 rfl (Or.inl rfl) rfl dX7_refusal_76 ?_
          refine J_getS (r := 8) fl_RX7_129 rfl (Or.inl rfl) rfl dX7_refusal_79 ?_
          refine J_iload_n rfl dX7_refusal_82 ?_
          refine J_iaload (Or.inl rfl) K.1 dX7_refusal_83 ?_
          replace K := K.2
          refine J_istore (loc' := [some (vR (some 0)), some (vI x1), some (vI x2), some (vI x3), some (vI (gi h 8 x2)), none]) (by decide) rfl dX7_refusal_84 ?_
          refine J_iload_n rfl dX7_refusal_86 ?_
          refine J_if_ne (tgt := 128) dX7_refusal_87 (by decide) (fun c => ?_) (fun c => ?_)
          · replace K := K.2 c
            refine J_iload_n rfl dX7_refusal_128 ?_
            refine J_iconst (by decide) dX7_refusal_129 ?_
            refine J_icmp_ne (tgt := 159) dX7_refusal_130 (by decide) (fun c => ?_) (fun c => ?_)
            · replace K := K.2 c
              refine J_iload_n rfl dX7_refusal_159 ?_
              refine J_iconst (by decide) dX7_refusal_160 ?_
              refine J_icmp_ne (tgt := 180) dX7_refusal_161 (by decide) (fun c => ?_) (fun c => ?_)
              · replace K := K.2 c
                refine J_iload rfl dX7_refusal_180 ?_
                refine J_if_ne (tgt := 217) dX7_refusal_182 (by decide) (fun c => ?_) (fun c => ?_)
                · replace K := K.2 c
                  refine J_iconst (by decide) dX7_refusal_217 ?_
                  refine J_istore (loc' := [some (vR (some 0)), some (vI x1), some (vI x2), some (vI x3), some (vI (gi h 8 x2)), some (vI 0)]) (by decide) rfl dX7_refusal_218 ?_
                  refine J_iload rfl dX7_refusal_220 ?_
                  refine J_if_eq (tgt := 229) dX7_refusal_222 (by decide) (fun _ => ?_) (fun c => absurd c (by decide))
                  refine J_bipush (by decide) (by decide) dX7_refusal_229 ?_
                  exact J_ireturn rfl dX7_refusal_231 K
                · replace K := K.1 c
                  refine J_aload_n rfl dX7_refusal_185 ?_
                  refine J_getS (r := 1) fl_RX7_10 rfl (Or.inl rfl) rfl dX7_refusal_186 ?_
                  refine J_iload_n rfl dX7_refusal_189 ?_
                  refine J_b0 (J_callV (b1 := 0) (ci := 0) (vs := [vI x3]) (rest := []) (Or.inr rfl) ml_RX7_108 rfl (by decide) rfl rfl (Or.inl rfl) (Nat.le_of_ble_eq_true rfl) rfl dX7_refusal_190 (c_X0_doorIn (by decide) K.1 ?_))
                  replace K := K.2
                  show J _ _ _ _ _ _ _ [vI (dIn (gi h 7) x3 (gi h 1 2).toNat 0)] _
                  refine J_iconst (by decide) dX7_refusal_193 ?_
                  refine J_icmp_ne (tgt := 217) dX7_refusal_194 (by decide) (fun c => ?_) (fun c => ?_)
                  · replace K := K.2 c
                    refine J_iconst (by decide) dX7_refusal_217 ?_
                    refine J_istore (loc' := [some (vR (some 0)), some (vI x1), some (vI x2), some (vI x3), some (vI (gi h 8 x2)), some (vI 0)]) (by decide) rfl dX7_refusal_218 ?_
                    refine J_iload rfl dX7_refusal_220 ?_
                    refine J_if_eq (tgt := 229) dX7_refusal_222 (by decide) (fun _ => ?_) (fun c => absurd c (by decide))
                    refine J_bipush (by decide) (by decide) dX7_refusal_229 ?_
                    exact J_ireturn rfl dX7_refusal_231 K
                  · replace K := K.1 c
                    refine J_aload_n rfl dX7_refusal_197 ?_
                    refine J_getS (r := 38) fl_RX7_50 rfl (Or.inl rfl) rfl dX7_refusal_198 ?_
                    refine J_aload_n rfl dX7_refusal_201 ?_
                    refine J_getS (r := 1) fl_RX7_10 rfl (Or.inl rfl) rfl dX7_refusal_202 ?_
                    refine J_iload_n rfl dX7_refusal_205 ?_
                    refine J_iload_n rfl dX7_refusal_206 ?_
                    refine J_b0 (J_callV (b1 := 0) (ci := 1) (vs := [vR (some 1), vI x2, vI x3]) (rest := []) (Or.inr rfl) ml_RX7_148 rfl (by decide) rfl rfl (Or.inl rfl) (Nat.le_of_ble_eq_true rfl) rfl dX7_refusal_207 (WM_mono K (fun r h1 K => ?_)))
                    obtain ⟨u1, rfl, K⟩ := K
                    show J _ _ _ _ _ _ _ [vI u1] _
                    refine J_if_eq (tgt := 217) dX7_refusal_210 (by decide) (fun c => ?_) (fun c => ?_)
                    · replace K := K.1 c
                      refine J_iconst (by decide) dX7_refusal_217 ?_
                      refine J_istore (loc' := [some (vR (some 0)), some (vI x1), some (vI x2), some (vI x3), some (vI (gi h 8 x2)), some (vI 0)]) (by decide) rfl dX7_refusal_218 ?_
                      refine J_iload rfl dX7_refusal_220 ?_
                      refine J_if_eq (tgt := 229) dX7_refusal_222 (by decide) (fun _ => ?_) (fun c => absurd c (by decide))
                      refine J_bipush (by decide) (by decide) dX7_refusal_229 ?_
                      exact J_ireturn rfl dX7_refusal_231 K
                    · replace K := K.2 c
                      refine J_iconst (by decide) dX7_refusal_213 ?_
                      refine J_goto (tgt := 218) dX7_refusal_214 (by decide) ?_
                      refine J_istore (loc' := [some (vR (some 0)), some (vI x1), some (vI x2), some (vI x3), some (vI (gi h 8 x2)), some (vI 1)]) (by decide) rfl dX7_refusal_218 ?_
                      refine J_iload rfl dX7_refusal_220 ?_
                      refine J_if_eq (tgt := 229) dX7_refusal_222 (by decide) (fun c => absurd c (by decide)) (fun _ => ?_)
                      refine J_iconst (by decide) dX7_refusal_225 ?_
                      refine J_goto (tgt := 231) dX7_refusal_226 (by decide) ?_
                      exact J_ireturn rfl dX7_refusal_231 K
              · replace K := K.1 c
                refine J_iload rfl dX7_refusal_164 ?_
                refine J_iconst (by decide) dX7_refusal_166 ?_
                refine J_icmp_eq (tgt := 174) dX7_refusal_167 (by decide) (fun c => ?_) (fun c => ?_)
                · replace K := K.1 c
                  refine J_iconst (by decide) dX7_refusal_174 ?_
                  refine J_istore (loc' := [some (vR (some 0)), some (vI x1), some (vI x2), some (vI x3), some (vI (gi h 8 x2)), some (vI 0)]) (by decide) rfl dX7_refusal_175 ?_
                  refine J_goto (tgt := 220) dX7_refusal_177 (by decide) ?_
                  refine J_iload rfl dX7_refusal_220 ?_
                  refine J_if_eq (tgt := 229) dX7_refusal_222 (by decide) (fun _ => ?_) (fun c => absurd c (by decide))
                  refine J_bipush (by decide) (by decide) dX7_refusal_229 ?_
                  exact J_ireturn rfl dX7_refusal_231 K
                · replace K := K.2 c
                  refine J_iconst (by decide) dX7_refusal_170 ?_
                  refine J_goto (tgt := 175) dX7_refusal_171 (by decide) ?_
                  refine J_istore (loc' := [some (vR (some 0)), some (vI x1), some (vI x2), some (vI x3), some (vI (gi h 8 x2)), some (vI 1)]) (by decide) rfl dX7_refusal_175 ?_
                  refine J_goto (tgt := 220) dX7_refusal_177 (by decide) ?_
                  refine J_iload rfl dX7_refusal_220 ?_
                  refine J_if_eq (tgt := 229) dX7_refusal_222 (by decide) (fun c => absurd c (by decide)) (fun _ => ?_)
                  refine J_iconst (by decide) dX7_refusal_225 ?_
                  refine J_goto (tgt := 231) dX7_refusal_226 (by decide) ?_
                  exact J_ireturn rfl dX7_refusal_231 K
            · replace K := K.1 c
              refine J_iload rfl dX7_refusal_133 ?_
              refine J_iconst (by decide) dX7_refusal_135 ?_
              refine J_icmp_eq (tgt := 153) dX7_refusal_136 (by decide) (fun c => ?_) (fun c => ?_)
              · replace K := K.1 c
                refine J_iconst (by decide) dX7_refusal_153 ?_
                refine J_istore (loc' := [some (vR (some 0)), some (vI x1), some (vI x2), some (vI x3), some (vI (gi h 8 x2)), some (vI 0)]) (by decide) rfl dX7_refusal_154 ?_
                refine J_goto (tgt := 220) dX7_refusal_156 (by decide) ?_
                refine J_iload rfl dX7_refusal_220 ?_
                refine J_if_eq (tgt := 229) dX7_refusal_222 (by decide) (fun _ => ?_) (fun c => absurd c (by decide))
                refine J_bipush (by decide) (by decide) dX7_refusal_229 ?_
                exact J_ireturn rfl dX7_refusal_231 K
              · replace K := K.2 c
                refine J_iload rfl dX7_refusal_139 ?_
                refine J_iload_n rfl dX7_refusal_141 ?_
                refine J_b0 (J_callS (b1 := 0) (vs := [vI (gi h 8 x2), vI x3]) (rest := []) (Or.inr rfl) ml_RX7_326 rfl (by decide) (Nat.le_of_ble_eq_true rfl) rfl dX7_refusal_142 (c_X0_beside  K.1 ?_))
                replace K := K.2
                show J _ _ _ _ _ _ _ [vI (zbes (gi h 8 x2) x3)] _
                refine J_iconst (by decide) dX7_refusal_145 ?_
                refine J_icmp_eq (tgt := 153) dX7_refusal_146 (by decide) (fun c => ?_) (fun c => ?_)
                · replace K := K.1 c
                  refine J_iconst (by decide) dX7_refusal_153 ?_
                  refine J_istore (loc' := [some (vR (some 0)), some (vI x1), some (vI x2), some (vI x3), some (vI (gi h 8 x2)), some (vI 0)]) (by decide) rfl dX7_refusal_154 ?_
                  refine J_goto (tgt := 220) dX7_refusal_156 (by decide) ?_
                  refine J_iload rfl dX7_refusal_220 ?_
                  refine J_if_eq (tgt := 229) dX7_refusal_222 (by decide) (fun _ => ?_) (fun c => absurd c (by decide))
                  refine J_bipush (by decide) (by decide) dX7_refusal_229 ?_
                  exact J_ireturn rfl dX7_refusal_231 K
                · replace K := K.2 c
                  refine J_iconst (by decide) dX7_refusal_149 ?_
                  refine J_goto (tgt := 154) dX7_refusal_150 (by decide) ?_
                  refine J_istore (loc' := [some (vR (some 0)), some (vI x1), some (vI x2), some (vI x3), some (vI (gi h 8 x2)), some (vI 1)]) (by decide) rfl dX7_refusal_154 ?_
                  refine J_goto (tgt := 220) dX7_refusal_156 (by decide) ?_
                  refine J_iload rfl dX7_refusal_220 ?_
                  refine J_if_eq (tgt := 229) dX7_refusal_222 (by decide) (fun c => absurd c (by decide)) (fun _ => ?_)
                  refine J_iconst (by decide) dX7_refusal_225 ?_
                  refine J_goto (tgt := 231) dX7_refusal_226 (by decide) ?_
                  exact J_ireturn rfl dX7_refusal_231 K
          · replace K := K.1 c
            refine J_aload_n rfl dX7_refusal_90 ?_
            refine J_getS (r := 1) fl_RX7_10 rfl (Or.inl rfl) rfl dX7_refusal_91 ?_
            refine J_getS (r := 7) fl_RX7_126 rfl (Or.inl rfl) rfl dX7_refusal_94 ?_
            refine J_iload_n rfl dX7_refusal_97 ?_
            refine J_iaload (Or.inl rfl) K.1 dX7_refusal_98 ?_
            replace K := K.2
            refine J_iconst (by decide) dX7_refusal_99 ?_
            refine J_icmp_eq (tgt := 122) dX7_refusal_100 (by decide) (fun c => ?_) (fun c => ?_)
            · replace K := K.1 c
              refine J_iconst (by decide) dX7_refusal_122 ?_
              refine J_istore (loc' := [some (vR (some 0)), some (vI x1), some (vI x2), some (vI x3), some (vI (gi h 8 x2)), some (vI 0)]) (by decide) rfl dX7_refusal_123 ?_
              refine J_goto (tgt := 220) dX7_refusal_125 (by decide) ?_
              refine J_iload rfl dX7_refusal_220 ?_
              refine J_if_eq (tgt := 229) dX7_refusal_222 (by decide) (fun _ => ?_) (fun c => absurd c (by decide))
              refine J_bipush (by decide) (by decide) dX7_refusal_229 ?_
              exact J_ireturn rfl dX7_refusal_231 K
            · replace K := K.2 c
              refine J_aload_n rfl dX7_refusal_103 ?_
              refine J_getS (r := 38) fl_RX7_50 rfl (Or.inl rfl) rfl dX7_refusal_104 ?_
              refine J_aload_n rfl dX7_refusal_107 ?_
              refine J_getS (r := 1) fl_RX7_10 rfl (Or.inl rfl) rfl dX7_refusal_108 ?_
              refine J_iload_n rfl dX7_refusal_111 ?_
              refine J_b0 (J_callV (b1 := 0) (ci := 1) (vs := [vR (some 1), vI x2]) (rest := []) (Or.inr rfl) ml_RX7_144 rfl (by decide) rfl rfl (Or.inl rfl) (Nat.le_of_ble_eq_true rfl) rfl dX7_refusal_112 (WM_mono K (fun r h2 K => ?_)))
              obtain ⟨u2, rfl, K⟩ := K
              show J _ _ _ _ _ _ _ [vI u2] _
              refine J_if_ne (tgt := 122) dX7_refusal_115 (by decide) (fun c => ?_) (fun c => ?_)
              · replace K := K.2 c
                refine J_iconst (by decide) dX7_refusal_122 ?_
                refine J_istore (loc' := [some (vR (some 0)), some (vI x1), some (vI x2), some (vI x3), some (vI (gi h 8 x2)), some (vI 0)]) (by decide) rfl dX7_refusal_123 ?_
                refine J_goto (tgt := 220) dX7_refusal_125 (by decide) ?_
                refine J_iload rfl dX7_refusal_220 ?_
                refine J_if_eq (tgt := 229) dX7_refusal_222 (by decide) (fun _ => ?_) (fun c => absurd c (by decide))
                refine J_bipush (by decide) (by decide) dX7_refusal_229 ?_
                exact J_ireturn rfl dX7_refusal_231 K
              · replace K := K.1 c
                refine J_iconst (by decide) dX7_refusal_118 ?_
                refine J_goto (tgt := 123) dX7_refusal_119 (by decide) ?_
                refine J_istore (loc' := [some (vR (some 0)), some (vI x1), some (vI x2), some (vI x3), some (vI (gi h 8 x2)), some (vI 1)]) (by decide) rfl dX7_refusal_123 ?_
                refine J_goto (tgt := 220) dX7_refusal_125 (by decide) ?_
                refine J_iload rfl dX7_refusal_220 ?_
                refine J_if_eq (tgt := 229) dX7_refusal_222 (by decide) (fun c => absurd c (by decide)) (fun _ => ?_)
                refine J_iconst (by decide) dX7_refusal_225 ?_
                refine J_goto (tgt := 231) dX7_refusal_226 (by decide) ?_
                exact J_ireturn rfl dX7_refusal_231 K
        · replace K := K.1 c
          refine J_aload_n rfl dX7_refusal_61 ?_
          refine J_getS (r := 1) fl_RX7_10 rfl (Or.inl rfl) rfl dX7_refusal_62 ?_
          refine J_iload_n rfl dX7_refusal_65 ?_
          refine J_b0 (J_callV (b1 := 0) (ci := 0) (vs := [vI x3]) (rest := []) (Or.inr rfl) ml_RX7_105 rfl (by decide) rfl rfl (Or.inl rfl) (Nat.le_of_ble_eq_true rfl) rfl dX7_refusal_66 (c_X0_isHouse (by decide)  ?_))
          show J _ _ _ _ _ _ _ [vI (b2i ((0 : Int) ≤ x3 ∧ x3 < gi h 1 0))] _
          refine J_if_ne (tgt := 75) dX7_refusal_69 (by decide) (fun c => ?_) (fun c => ?_)
          · replace K := K.1 (b2i_n0.mp c)
            refine J_aload_n rfl dX7_refusal_75 ?_
            refine J_getS (r := 1) fl_RX7_10 rfl (Or.inl rfl) rfl dX7_refusal_76 ?_
            refine J_getS (r := 8) fl_RX7_129 rfl (Or.inl rfl) rfl dX7_refusal_79 ?_
            refine J_iload_n rfl dX7_refusal_82 ?_
            refine J_iaload (Or.inl rfl) K.1 dX7_refusal_83 ?_
            replace K := K.2
            refine J_istore (loc' := [some (vR (some 0)), some (vI x1), some (vI x2), some (vI x3), some (vI (gi h 8 x2)), none]) (by decide) rfl dX7_refusal_84 ?_
            refine J_iload_n rfl dX7_refusal_86 ?_
            refine J_if_ne (tgt := 128) dX7_refusal_87 (by decide) (fun c => ?_) (fun c => ?_)
            · replace K := K.2 c
              refine J_iload_n rfl dX7_refusal_128 ?_
              refine J_iconst (by decide) dX7_refusal_129 ?_
              refine J_icmp_ne (tgt := 159) dX7_refusal_130 (by decide) (fun c => ?_) (fun c => ?_)
              · replace K := K.2 c
                refine J_iload_n rfl dX7_refusal_159 ?_
                refine J_iconst (by decide) dX7_refusal_160 ?_
                refine J_icmp_ne (tgt := 180) dX7_refusal_161 (by decide) (fun c => ?_) (fun c => ?_)
                · replace K := K.2 c
                  refine J_iload rfl dX7_refusal_180 ?_
                  refine J_if_ne (tgt := 217) dX7_refusal_182 (by decide) (fun c => ?_) (fun c => ?_)
                  · replace K := K.2 c
                    refine J_iconst (by decide) dX7_refusal_217 ?_
                    refine J_istore (loc' := [some (vR (some 0)), some (vI x1), some (vI x2), some (vI x3), some (vI (gi h 8 x2)), some (vI 0)]) (by decide) rfl dX7_refusal_218 ?_
                    refine J_iload rfl dX7_refusal_220 ?_
                    refine J_if_eq (tgt := 229) dX7_refusal_222 (by decide) (fun _ => ?_) (fun c => absurd c (by decide))
                    refine J_bipush (by decide) (by decide) dX7_refusal_229 ?_
                    exact J_ireturn rfl dX7_refusal_231 K
                  · replace K := K.1 c
                    refine J_aload_n rfl dX7_refusal_185 ?_
                    refine J_getS (r := 1) fl_RX7_10 rfl (Or.inl rfl) rfl dX7_refusal_186 ?_
                    refine J_iload_n rfl dX7_refusal_189 ?_
                    refine J_b0 (J_callV (b1 := 0) (ci := 0) (vs := [vI x3]) (rest := []) (Or.inr rfl) ml_RX7_108 rfl (by decide) rfl rfl (Or.inl rfl) (Nat.le_of_ble_eq_true rfl) rfl dX7_refusal_190 (c_X0_doorIn (by decide) K.1 ?_))
                    replace K := K.2
                    show J _ _ _ _ _ _ _ [vI (dIn (gi h 7) x3 (gi h 1 2).toNat 0)] _
                    refine J_iconst (by decide) dX7_refusal_193 ?_
                    refine J_icmp_ne (tgt := 217) dX7_refusal_194 (by decide) (fun c => ?_) (fun c => ?_)
                    · replace K := K.2 c
                      refine J_iconst (by decide) dX7_refusal_217 ?_
                      refine J_istore (loc' := [some (vR (some 0)), some (vI x1), some (vI x2), some (vI x3), some (vI (gi h 8 x2)), some (vI 0)]) (by decide) rfl dX7_refusal_218 ?_
                      refine J_iload rfl dX7_refusal_220 ?_
                      refine J_if_eq (tgt := 229) dX7_refusal_222 (by decide) (fun _ => ?_) (fun c => absurd c (by decide))
                      refine J_bipush (by decide) (by decide) dX7_refusal_229 ?_
                      exact J_ireturn rfl dX7_refusal_231 K
                    · replace K := K.1 c
                      refine J_aload_n rfl dX7_refusal_197 ?_
                      refine J_getS (r := 38) fl_RX7_50 rfl (Or.inl rfl) rfl dX7_refusal_198 ?_
                      refine J_aload_n rfl dX7_refusal_201 ?_
                      refine J_getS (r := 1) fl_RX7_10 rfl (Or.inl rfl) rfl dX7_refusal_202 ?_
                      refine J_iload_n rfl dX7_refusal_205 ?_
                      refine J_iload_n rfl dX7_refusal_206 ?_
                      refine J_b0 (J_callV (b1 := 0) (ci := 1) (vs := [vR (some 1), vI x2, vI x3]) (rest := []) (Or.inr rfl) ml_RX7_148 rfl (by decide) rfl rfl (Or.inl rfl) (Nat.le_of_ble_eq_true rfl) rfl dX7_refusal_207 (WM_mono K (fun r h3 K => ?_)))
                      obtain ⟨u3, rfl, K⟩ := K
                      show J _ _ _ _ _ _ _ [vI u3] _
                      refine J_if_eq (tgt := 217) dX7_refusal_210 (by decide) (fun c => ?_) (fun c => ?_)
                      · replace K := K.1 c
                        refine J_iconst (by decide) dX7_refusal_217 ?_
                        refine J_istore (loc' := [some (vR (some 0)), some (vI x1), some (vI x2), some (vI x3), some (vI (gi h 8 x2)), some (vI 0)]) (by decide) rfl dX7_refusal_218 ?_
                        refine J_iload rfl dX7_refusal_220 ?_
                        refine J_if_eq (tgt := 229) dX7_refusal_222 (by decide) (fun _ => ?_) (fun c => absurd c (by decide))
                        refine J_bipush (by decide) (by decide) dX7_refusal_229 ?_
                        exact J_ireturn rfl dX7_refusal_231 K
                      · replace K := K.2 c
                        refine J_iconst (by decide) dX7_refusal_213 ?_
                        refine J_goto (tgt := 218) dX7_refusal_214 (by decide) ?_
                        refine J_istore (loc' := [some (vR (some 0)), some (vI x1), some (vI x2), some (vI x3), some (vI (gi h 8 x2)), some (vI 1)]) (by decide) rfl dX7_refusal_218 ?_
                        refine J_iload rfl dX7_refusal_220 ?_
                        refine J_if_eq (tgt := 229) dX7_refusal_222 (by decide) (fun c => absurd c (by decide)) (fun _ => ?_)
                        refine J_iconst (by decide) dX7_refusal_225 ?_
                        refine J_goto (tgt := 231) dX7_refusal_226 (by decide) ?_
                        exact J_ireturn rfl dX7_refusal_231 K
                · replace K := K.1 c
                  refine J_iload rfl dX7_refusal_164 ?_
                  refine J_iconst (by decide) dX7_refusal_166 ?_
                  refine J_icmp_eq (tgt := 174) dX7_refusal_167 (by decide) (fun c => ?_) (fun c => ?_)
                  · replace K := K.1 c
                    refine J_iconst (by decide) dX7_refusal_174 ?_
                    refine J_istore (loc' := [some (vR (some 0)), some (vI x1), some (vI x2), some (vI x3), some (vI (gi h 8 x2)), some (vI 0)]) (by decide) rfl dX7_refusal_175 ?_
                    refine J_goto (tgt := 220) dX7_refusal_177 (by decide) ?_
                    refine J_iload rfl dX7_refusal_220 ?_
                    refine J_if_eq (tgt := 229) dX7_refusal_222 (by decide) (fun _ => ?_) (fun c => absurd c (by decide))
                    refine J_bipush (by decide) (by decide) dX7_refusal_229 ?_
                    exact J_ireturn rfl dX7_refusal_231 K
                  · replace K := K.2 c
                    refine J_iconst (by decide) dX7_refusal_170 ?_
                    refine J_goto (tgt := 175) dX7_refusal_171 (by decide) ?_
                    refine J_istore (loc' := [some (vR (some 0)), some (vI x1), some (vI x2), some (vI x3), some (vI (gi h 8 x2)), some (vI 1)]) (by decide) rfl dX7_refusal_175 ?_
                    refine J_goto (tgt := 220) dX7_refusal_177 (by decide) ?_
                    refine J_iload rfl dX7_refusal_220 ?_
                    refine J_if_eq (tgt := 229) dX7_refusal_222 (by decide) (fun c => absurd c (by decide)) (fun _ => ?_)
                    refine J_iconst (by decide) dX7_refusal_225 ?_
                    refine J_goto (tgt := 231) dX7_refusal_226 (by decide) ?_
                    exact J_ireturn rfl dX7_refusal_231 K
              · replace K := K.1 c
                refine J_iload rfl dX7_refusal_133 ?_
                refine J_iconst (by decide) dX7_refusal_135 ?_
                refine J_icmp_eq (tgt := 153) dX7_refusal_136 (by decide) (fun c => ?_) (fun c => ?_)
                · replace K := K.1 c
                  refine J_iconst (by decide) dX7_refusal_153 ?_
                  refine J_istore (loc' := [some (vR (some 0)), some (vI x1), some (vI x2), some (vI x3), some (vI (gi h 8 x2)), some (vI 0)]) (by decide) rfl dX7_refusal_154 ?_
                  refine J_goto (tgt := 220) dX7_refusal_156 (by decide) ?_
                  refine J_iload rfl dX7_refusal_220 ?_
                  refine J_if_eq (tgt := 229) dX7_refusal_222 (by decide) (fun _ => ?_) (fun c => absurd c (by decide))
                  refine J_bipush (by decide) (by decide) dX7_refusal_229 ?_
                  exact J_ireturn rfl dX7_refusal_231 K
                · replace K := K.2 c
                  refine J_iload rfl dX7_refusal_139 ?_
                  refine J_iload_n rfl dX7_refusal_141 ?_
                  refine J_b0 (J_callS (b1 := 0) (vs := [vI (gi h 8 x2), vI x3]) (rest := []) (Or.inr rfl) ml_RX7_326 rfl (by decide) (Nat.le_of_ble_eq_true rfl) rfl dX7_refusal_142 (c_X0_beside  K.1 ?_))
                  replace K := K.2
                  show J _ _ _ _ _ _ _ [vI (zbes (gi h 8 x2) x3)] _
                  refine J_iconst (by decide) dX7_refusal_145 ?_
                  refine J_icmp_eq (tgt := 153) dX7_refusal_146 (by decide) (fun c => ?_) (fun c => ?_)
                  · replace K := K.1 c
                    refine J_iconst (by decide) dX7_refusal_153 ?_
                    refine J_istore (loc' := [some (vR (some 0)), some (vI x1), some (vI x2), some (vI x3), some (vI (gi h 8 x2)), some (vI 0)]) (by decide) rfl dX7_refusal_154 ?_
                    refine J_goto (tgt := 220) dX7_refusal_156 (by decide) ?_
                    refine J_iload rfl dX7_refusal_220 ?_
                    refine J_if_eq (tgt := 229) dX7_refusal_222 (by decide) (fun _ => ?_) (fun c => absurd c (by decide))
                    refine J_bipush (by decide) (by decide) dX7_refusal_229 ?_
                    exact J_ireturn rfl dX7_refusal_231 K
                  · replace K := K.2 c
                    refine J_iconst (by decide) dX7_refusal_149 ?_
                    refine J_goto (tgt := 154) dX7_refusal_150 (by decide) ?_
                    refine J_istore (loc' := [some (vR (some 0)), some (vI x1), some (vI x2), some (vI x3), some (vI (gi h 8 x2)), some (vI 1)]) (by decide) rfl dX7_refusal_154 ?_
                    refine J_goto (tgt := 220) dX7_refusal_156 (by decide) ?_
                    refine J_iload rfl dX7_refusal_220 ?_
                    refine J_if_eq (tgt := 229) dX7_refusal_222 (by decide) (fun c => absurd c (by decide)) (fun _ => ?_)
                    refine J_iconst (by decide) dX7_refusal_225 ?_
                    refine J_goto (tgt := 231) dX7_refusal_226 (by decide) ?_
                    exact J_ireturn rfl dX7_refusal_231 K
            · replace K := K.1 c
              refine J_aload_n rfl dX7_refusal_90 ?_
              refine J_getS (r := 1) fl_RX7_10 rfl (Or.inl rfl) rfl dX7_refusal_91 ?_
              refine J_getS (r := 7) fl_RX7_126 rfl (Or.inl rfl) rfl dX7_refusal_94 ?_
              refine J_iload_n rfl dX7_refusal_97 ?_
              refine J_iaload (Or.inl rfl) K.1 dX7_refusal_98 ?_
              replace K := K.2
              refine J_iconst (by decide) dX7_refusal_99 ?_
              refine J_icmp_eq (tgt := 122) dX7_refusal_100 (by decide) (fun c => ?_) (fun c => ?_)
              · replace K := K.1 c
                refine J_iconst (by decide) dX7_refusal_122 ?_
                refine J_istore (loc' := [some (vR (some 0)), some (vI x1), some (vI x2), some (vI x3), some (vI (gi h 8 x2)), some (vI 0)]) (by decide) rfl dX7_refusal_123 ?_
                refine J_goto (tgt := 220) dX7_refusal_125 (by decide) ?_
                refine J_iload rfl dX7_refusal_220 ?_
                refine J_if_eq (tgt := 229) dX7_refusal_222 (by decide) (fun _ => ?_) (fun c => absurd c (by decide))
                refine J_bipush (by decide) (by decide) dX7_refusal_229 ?_
                exact J_ireturn rfl dX7_refusal_231 K
              · replace K := K.2 c
                refine J_aload_n rfl dX7_refusal_103 ?_
                refine J_getS (r := 38) fl_RX7_50 rfl (Or.inl rfl) rfl dX7_refusal_104 ?_
                refine J_aload_n rfl dX7_refusal_107 ?_
                refine J_getS (r := 1) fl_RX7_10 rfl (Or.inl rfl) rfl dX7_refusal_108 ?_
                refine J_iload_n rfl dX7_refusal_111 ?_
                refine J_b0 (J_callV (b1 := 0) (ci := 1) (vs := [vR (some 1), vI x2]) (rest := []) (Or.inr rfl) ml_RX7_144 rfl (by decide) rfl rfl (Or.inl rfl) (Nat.le_of_ble_eq_true rfl) rfl dX7_refusal_112 (WM_mono K (fun r h4 K => ?_)))
                obtain ⟨u4, rfl, K⟩ := K
                show J _ _ _ _ _ _ _ [vI u4] _
                refine J_if_ne (tgt := 122) dX7_refusal_115 (by decide) (fun c => ?_) (fun c => ?_)
                · replace K := K.2 c
                  refine J_iconst (by decide) dX7_refusal_122 ?_
                  refine J_istore (loc' := [some (vR (some 0)), some (vI x1), some (vI x2), some (vI x3), some (vI (gi h 8 x2)), some (vI 0)]) (by decide) rfl dX7_refusal_123 ?_
                  refine J_goto (tgt := 220) dX7_refusal_125 (by decide) ?_
                  refine J_iload rfl dX7_refusal_220 ?_
                  refine J_if_eq (tgt := 229) dX7_refusal_222 (by decide) (fun _ => ?_) (fun c => absurd c (by decide))
                  refine J_bipush (by decide) (by decide) dX7_refusal_229 ?_
                  exact J_ireturn rfl dX7_refusal_231 K
                · replace K := K.1 c
                  refine J_iconst (by decide) dX7_refusal_118 ?_
                  refine J_goto (tgt := 123) dX7_refusal_119 (by decide) ?_
                  refine J_istore (loc' := [some (vR (some 0)), some (vI x1), some (vI x2), some (vI x3), some (vI (gi h 8 x2)), some (vI 1)]) (by decide) rfl dX7_refusal_123 ?_
                  refine J_goto (tgt := 220) dX7_refusal_125 (by decide) ?_
                  refine J_iload rfl dX7_refusal_220 ?_
                  refine J_if_eq (tgt := 229) dX7_refusal_222 (by decide) (fun c => absurd c (by decide)) (fun _ => ?_)
                  refine J_iconst (by decide) dX7_refusal_225 ?_
                  refine J_goto (tgt := 231) dX7_refusal_226 (by decide) ?_
                  exact J_ireturn rfl dX7_refusal_231 K
          · replace K := K.2 (b2i_0.mp c)
            refine J_bipush (by decide) (by decide) dX7_refusal_72 ?_
            exact J_ireturn rfl dX7_refusal_74 K
      · replace K := K.2 (b2i_0.mp c)
        refine J_bipush (by decide) (by decide) dX7_refusal_53 ?_
        exact J_ireturn rfl dX7_refusal_55 K
    · replace K := K.1 c
      refine J_iload_n rfl dX7_refusal_30 ?_
      refine J_iconst (by decide) dX7_refusal_31 ?_
      refine J_icmp_lt (tgt := 40) dX7_refusal_32 (by decide) (fun c => ?_) (fun c => ?_)
      · replace K := K.1 c
        refine J_iconst (by decide) dX7_refusal_40 ?_
        exact J_ireturn rfl dX7_refusal_41 K
      · replace K := K.2 c
        refine J_iload_n rfl dX7_refusal_35 ?_
        refine J_iconst (by decide) dX7_refusal_36 ?_
        refine J_icmp_le (tgt := 42) dX7_refusal_37 (by decide) (fun c => ?_) (fun c => ?_)
        · replace K := K.1 c
          refine J_aload_n rfl dX7_refusal_42 ?_
          refine J_getS (r := 1) fl_RX7_10 rfl (Or.inl rfl) rfl dX7_refusal_43 ?_
          refine J_iload_n rfl dX7_refusal_46 ?_
          refine J_b0 (J_callV (b1 := 0) (ci := 0) (vs := [vI x2]) (rest := []) (Or.inr rfl) ml_RX7_138 rfl (by decide) rfl rfl (Or.inl rfl) (Nat.le_of_ble_eq_true rfl) rfl dX7_refusal_47 (c_X0_isDoor (by decide)  ?_))
          show J _ _ _ _ _ _ _ [vI (b2i ((0 : Int) ≤ x2 ∧ x2 < gi h 1 2))] _
          refine J_if_ne (tgt := 56) dX7_refusal_50 (by decide) (fun c => ?_) (fun c => ?_)
          · replace K := K.1 (b2i_n0.mp c)
            refine J_iload_n rfl dX7_refusal_56 ?_
            refine J_iconst (by decide) dX7_refusal_57 ?_
            refine J_icmp_ne (tgt := 75) dX7_refusal_58 (by decide) (fun c => ?_) (fun c => ?_)
            · replace K := K.2 c
              refine J_aload_n rfl dX7_refusal_75 ?_
              refine J_getS (r := 1) fl_RX7_10 rfl (Or.inl rfl) rfl dX7_refusal_76 ?_
              refine J_getS (r := 8) fl_RX7_129 rfl (Or.inl rfl) rfl dX7_refusal_79 ?_
              refine J_iload_n rfl dX7_refusal_82 ?_
              refine J_iaload (Or.inl rfl) K.1 dX7_refusal_83 ?_
              replace K := K.2
              refine J_istore (loc' := [some (vR (some 0)), some (vI x1), some (vI x2), some (vI x3), some (vI (gi h 8 x2)), none]) (by decide) rfl dX7_refusal_84 ?_
              refine J_iload_n rfl dX7_refusal_86 ?_
              refine J_if_ne (tgt := 128) dX7_refusal_87 (by decide) (fun c => ?_) (fun c => ?_)
              · replace K := K.2 c
                refine J_iload_n rfl dX7_refusal_128 ?_
                refine J_iconst (by decide) dX7_refusal_129 ?_
                refine J_icmp_ne (tgt := 159) dX7_refusal_130 (by decide) (fun c => ?_) (fun c => ?_)
                · replace K := K.2 c
                  refine J_iload_n rfl dX7_refusal_159 ?_
                  refine J_iconst (by decide) dX7_refusal_160 ?_
                  refine J_icmp_ne (tgt := 180) dX7_refusal_161 (by decide) (fun c => ?_) (fun c => ?_)
                  · replace K := K.2 c
                    refine J_iload rfl dX7_refusal_180 ?_
                    refine J_if_ne (tgt := 217) dX7_refusal_182 (by decide) (fun c => ?_) (fun c => ?_)
                    · replace K := K.2 c
                      refine J_iconst (by decide) dX7_refusal_217 ?_
                      refine J_istore (loc' := [some (vR (some 0)), some (vI x1), some (vI x2), some (vI x3), some (vI (gi h 8 x2)), some (vI 0)]) (by decide) rfl dX7_refusal_218 ?_
                      refine J_iload rfl dX7_refusal_220 ?_
                      refine J_if_eq (tgt := 229) dX7_refusal_222 (by decide) (fun _ => ?_) (fun c => absurd c (by decide))
                      refine J_bipush (by decide) (by decide) dX7_refusal_229 ?_
                      exact J_ireturn rfl dX7_refusal_231 K
                    · replace K := K.1 c
                      refine J_aload_n rfl dX7_refusal_185 ?_
                      refine J_getS (r := 1) fl_RX7_10 rfl (Or.inl rfl) rfl dX7_refusal_186 ?_
                      refine J_iload_n rfl dX7_refusal_189 ?_
                      refine J_b0 (J_callV (b1 := 0) (ci := 0) (vs := [vI x3]) (rest := []) (Or.inr rfl) ml_RX7_108 rfl (by decide) rfl rfl (Or.inl rfl) (Nat.le_of_ble_eq_true rfl) rfl dX7_refusal_190 (c_X0_doorIn (by decide) K.1 ?_))
                      replace K := K.2
                      show J _ _ _ _ _ _ _ [vI (dIn (gi h 7) x3 (gi h 1 2).toNat 0)] _
                      refine J_iconst (by decide) dX7_refusal_193 ?_
                      refine J_icmp_ne (tgt := 217) dX7_refusal_194 (by decide) (fun c => ?_) (fun c => ?_)
                      · replace K := K.2 c
                        refine J_iconst (by decide) dX7_refusal_217 ?_
                        refine J_istore (loc' := [some (vR (some 0)), some (vI x1), some (vI x2), some (vI x3), some (vI (gi h 8 x2)), some (vI 0)]) (by decide) rfl dX7_refusal_218 ?_
                        refine J_iload rfl dX7_refusal_220 ?_
                        refine J_if_eq (tgt := 229) dX7_refusal_222 (by decide) (fun _ => ?_) (fun c => absurd c (by decide))
                        refine J_bipush (by decide) (by decide) dX7_refusal_229 ?_
                        exact J_ireturn rfl dX7_refusal_231 K
                      · replace K := K.1 c
                        refine J_aload_n rfl dX7_refusal_197 ?_
                        refine J_getS (r := 38) fl_RX7_50 rfl (Or.inl rfl) rfl dX7_refusal_198 ?_
                        refine J_aload_n rfl dX7_refusal_201 ?_
                        refine J_getS (r := 1) fl_RX7_10 rfl (Or.inl rfl) rfl dX7_refusal_202 ?_
                        refine J_iload_n rfl dX7_refusal_205 ?_
                        refine J_iload_n rfl dX7_refusal_206 ?_
                        refine J_b0 (J_callV (b1 := 0) (ci := 1) (vs := [vR (some 1), vI x2, vI x3]) (rest := []) (Or.inr rfl) ml_RX7_148 rfl (by decide) rfl rfl (Or.inl rfl) (Nat.le_of_ble_eq_true rfl) rfl dX7_refusal_207 (WM_mono K (fun r h5 K => ?_)))
                        obtain ⟨u5, rfl, K⟩ := K
                        show J _ _ _ _ _ _ _ [vI u5] _
                        refine J_if_eq (tgt := 217) dX7_refusal_210 (by decide) (fun c => ?_) (fun c => ?_)
                        · replace K := K.1 c
                          refine J_iconst (by decide) dX7_refusal_217 ?_
                          refine J_istore (loc' := [some (vR (some 0)), some (vI x1), some (vI x2), some (vI x3), some (vI (gi h 8 x2)), some (vI 0)]) (by decide) rfl dX7_refusal_218 ?_
                          refine J_iload rfl dX7_refusal_220 ?_
                          refine J_if_eq (tgt := 229) dX7_refusal_222 (by decide) (fun _ => ?_) (fun c => absurd c (by decide))
                          refine J_bipush (by decide) (by decide) dX7_refusal_229 ?_
                          exact J_ireturn rfl dX7_refusal_231 K
                        · replace K := K.2 c
                          refine J_iconst (by decide) dX7_refusal_213 ?_
                          refine J_goto (tgt := 218) dX7_refusal_214 (by decide) ?_
                          refine J_istore (loc' := [some (vR (some 0)), some (vI x1), some (vI x2), some (vI x3), some (vI (gi h 8 x2)), some (vI 1)]) (by decide) rfl dX7_refusal_218 ?_
                          refine J_iload rfl dX7_refusal_220 ?_
                          refine J_if_eq (tgt := 229) dX7_refusal_222 (by decide) (fun c => absurd c (by decide)) (fun _ => ?_)
                          refine J_iconst (by decide) dX7_refusal_225 ?_
                          refine J_goto (tgt := 231) dX7_refusal_226 (by decide) ?_
                          exact J_ireturn rfl dX7_refusal_231 K
                  · replace K := K.1 c
                    refine J_iload rfl dX7_refusal_164 ?_
                    refine J_iconst (by decide) dX7_refusal_166 ?_
                    refine J_icmp_eq (tgt := 174) dX7_refusal_167 (by decide) (fun c => ?_) (fun c => ?_)
                    · replace K := K.1 c
                      refine J_iconst (by decide) dX7_refusal_174 ?_
                      refine J_istore (loc' := [some (vR (some 0)), some (vI x1), some (vI x2), some (vI x3), some (vI (gi h 8 x2)), some (vI 0)]) (by decide) rfl dX7_refusal_175 ?_
                      refine J_goto (tgt := 220) dX7_refusal_177 (by decide) ?_
                      refine J_iload rfl dX7_refusal_220 ?_
                      refine J_if_eq (tgt := 229) dX7_refusal_222 (by decide) (fun _ => ?_) (fun c => absurd c (by decide))
                      refine J_bipush (by decide) (by decide) dX7_refusal_229 ?_
                      exact J_ireturn rfl dX7_refusal_231 K
                    · replace K := K.2 c
                      refine J_iconst (by decide) dX7_refusal_170 ?_
                      refine J_goto (tgt := 175) dX7_refusal_171 (by decide) ?_
                      refine J_istore (loc' := [some (vR (some 0)), some (vI x1), some (vI x2), some (vI x3), some (vI (gi h 8 x2)), some (vI 1)]) (by decide) rfl dX7_refusal_175 ?_
                      refine J_goto (tgt := 220) dX7_refusal_177 (by decide) ?_
                      refine J_iload rfl dX7_refusal_220 ?_
                      refine J_if_eq (tgt := 229) dX7_refusal_222 (by decide) (fun c => absurd c (by decide)) (fun _ => ?_)
                      refine J_iconst (by decide) dX7_refusal_225 ?_
                      refine J_goto (tgt := 231) dX7_refusal_226 (by decide) ?_
                      exact J_ireturn rfl dX7_refusal_231 K
                · replace K := K.1 c
                  refine J_iload rfl dX7_refusal_133 ?_
                  refine J_iconst (by decide) dX7_refusal_135 ?_
                  refine J_icmp_eq (tgt := 153) dX7_refusal_136 (by decide) (fun c => ?_) (fun c => ?_)
                  · replace K := K.1 c
                    refine J_iconst (by decide) dX7_refusal_153 ?_
                    refine J_istore (loc' := [some (vR (some 0)), some (vI x1), some (vI x2), some (vI x3), some (vI (gi h 8 x2)), some (vI 0)]) (by decide) rfl dX7_refusal_154 ?_
                    refine J_goto (tgt := 220) dX7_refusal_156 (by decide) ?_
                    refine J_iload rfl dX7_refusal_220 ?_
                    refine J_if_eq (tgt := 229) dX7_refusal_222 (by decide) (fun _ => ?_) (fun c => absurd c (by decide))
                    refine J_bipush (by decide) (by decide) dX7_refusal_229 ?_
                    exact J_ireturn rfl dX7_refusal_231 K
                  · replace K := K.2 c
                    refine J_iload rfl dX7_refusal_139 ?_
                    refine J_iload_n rfl dX7_refusal_141 ?_
                    refine J_b0 (J_callS (b1 := 0) (vs := [vI (gi h 8 x2), vI x3]) (rest := []) (Or.inr rfl) ml_RX7_326 rfl (by decide) (Nat.le_of_ble_eq_true rfl) rfl dX7_refusal_142 (c_X0_beside  K.1 ?_))
                    replace K := K.2
                    show J _ _ _ _ _ _ _ [vI (zbes (gi h 8 x2) x3)] _
                    refine J_iconst (by decide) dX7_refusal_145 ?_
                    refine J_icmp_eq (tgt := 153) dX7_refusal_146 (by decide) (fun c => ?_) (fun c => ?_)
                    · replace K := K.1 c
                      refine J_iconst (by decide) dX7_refusal_153 ?_
                      refine J_istore (loc' := [some (vR (some 0)), some (vI x1), some (vI x2), some (vI x3), some (vI (gi h 8 x2)), some (vI 0)]) (by decide) rfl dX7_refusal_154 ?_
                      refine J_goto (tgt := 220) dX7_refusal_156 (by decide) ?_
                      refine J_iload rfl dX7_refusal_220 ?_
                      refine J_if_eq (tgt := 229) dX7_refusal_222 (by decide) (fun _ => ?_) (fun c => absurd c (by decide))
                      refine J_bipush (by decide) (by decide) dX7_refusal_229 ?_
                      exact J_ireturn rfl dX7_refusal_231 K
                    · replace K := K.2 c
                      refine J_iconst (by decide) dX7_refusal_149 ?_
                      refine J_goto (tgt := 154) dX7_refusal_150 (by decide) ?_
                      refine J_istore (loc' := [some (vR (some 0)), some (vI x1), some (vI x2), some (vI x3), some (vI (gi h 8 x2)), some (vI 1)]) (by decide) rfl dX7_refusal_154 ?_
                      refine J_goto (tgt := 220) dX7_refusal_156 (by decide) ?_
                      refine J_iload rfl dX7_refusal_220 ?_
                      refine J_if_eq (tgt := 229) dX7_refusal_222 (by decide) (fun c => absurd c (by decide)) (fun _ => ?_)
                      refine J_iconst (by decide) dX7_refusal_225 ?_
                      refine J_goto (tgt := 231) dX7_refusal_226 (by decide) ?_
                      exact J_ireturn rfl dX7_refusal_231 K
              · replace K := K.1 c
                refine J_aload_n rfl dX7_refusal_90 ?_
                refine J_getS (r := 1) fl_RX7_10 rfl (Or.inl rfl) rfl dX7_refusal_91 ?_
                refine J_getS (r := 7) fl_RX7_126 rfl (Or.inl rfl) rfl dX7_refusal_94 ?_
                refine J_iload_n rfl dX7_refusal_97 ?_
                refine J_iaload (Or.inl rfl) K.1 dX7_refusal_98 ?_
                replace K := K.2
                refine J_iconst (by decide) dX7_refusal_99 ?_
                refine J_icmp_eq (tgt := 122) dX7_refusal_100 (by decide) (fun c => ?_) (fun c => ?_)
                · replace K := K.1 c
                  refine J_iconst (by decide) dX7_refusal_122 ?_
                  refine J_istore (loc' := [some (vR (some 0)), some (vI x1), some (vI x2), some (vI x3), some (vI (gi h 8 x2)), some (vI 0)]) (by decide) rfl dX7_refusal_123 ?_
                  refine J_goto (tgt := 220) dX7_refusal_125 (by decide) ?_
                  refine J_iload rfl dX7_refusal_220 ?_
                  refine J_if_eq (tgt := 229) dX7_refusal_222 (by decide) (fun _ => ?_) (fun c => absurd c (by decide))
                  refine J_bipush (by decide) (by decide) dX7_refusal_229 ?_
                  exact J_ireturn rfl dX7_refusal_231 K
                · replace K := K.2 c
                  refine J_aload_n rfl dX7_refusal_103 ?_
                  refine J_getS (r := 38) fl_RX7_50 rfl (Or.inl rfl) rfl dX7_refusal_104 ?_
                  refine J_aload_n rfl dX7_refusal_107 ?_
                  refine J_getS (r := 1) fl_RX7_10 rfl (Or.inl rfl) rfl dX7_refusal_108 ?_
                  refine J_iload_n rfl dX7_refusal_111 ?_
                  refine J_b0 (J_callV (b1 := 0) (ci := 1) (vs := [vR (some 1), vI x2]) (rest := []) (Or.inr rfl) ml_RX7_144 rfl (by decide) rfl rfl (Or.inl rfl) (Nat.le_of_ble_eq_true rfl) rfl dX7_refusal_112 (WM_mono K (fun r h6 K => ?_)))
                  obtain ⟨u6, rfl, K⟩ := K
                  show J _ _ _ _ _ _ _ [vI u6] _
                  refine J_if_ne (tgt := 122) dX7_refusal_115 (by decide) (fun c => ?_) (fun c => ?_)
                  · replace K := K.2 c
                    refine J_iconst (by decide) dX7_refusal_122 ?_
                    refine J_istore (loc' := [some (vR (some 0)), some (vI x1), some (vI x2), some (vI x3), some (vI (gi h 8 x2)), some (vI 0)]) (by decide) rfl dX7_refusal_123 ?_
                    refine J_goto (tgt := 220) dX7_refusal_125 (by decide) ?_
                    refine J_iload rfl dX7_refusal_220 ?_
                    refine J_if_eq (tgt := 229) dX7_refusal_222 (by decide) (fun _ => ?_) (fun c => absurd c (by decide))
                    refine J_bipush (by decide) (by decide) dX7_refusal_229 ?_
                    exact J_ireturn rfl dX7_refusal_231 K
                  · replace K := K.1 c
                    refine J_iconst (by decide) dX7_refusal_118 ?_
                    refine J_goto (tgt := 123) dX7_refusal_119 (by decide) ?_
                    refine J_istore (loc' := [some (vR (some 0)), some (vI x1), some (vI x2), some (vI x3), some (vI (gi h 8 x2)), some (vI 1)]) (by decide) rfl dX7_refusal_123 ?_
                    refine J_goto (tgt := 220) dX7_refusal_125 (by decide) ?_
                    refine J_iload rfl dX7_refusal_220 ?_
                    refine J_if_eq (tgt := 229) dX7_refusal_222 (by decide) (fun c => absurd c (by decide)) (fun _ => ?_)
                    refine J_iconst (by decide) dX7_refusal_225 ?_
                    refine J_goto (tgt := 231) dX7_refusal_226 (by decide) ?_
                    exact J_ireturn rfl dX7_refusal_231 K
            · replace K := K.1 c
              refine J_aload_n rfl dX7_refusal_61 ?_
              refine J_getS (r := 1) fl_RX7_10 rfl (Or.inl rfl) rfl dX7_refusal_62 ?_
              refine J_iload_n rfl dX7_refusal_65 ?_
              refine J_b0 (J_callV (b1 := 0) (ci := 0) (vs := [vI x3]) (rest := []) (Or.inr rfl) ml_RX7_105 rfl (by decide) rfl rfl (Or.inl rfl) (Nat.le_of_ble_eq_true rfl) rfl dX7_refusal_66 (c_X0_isHouse (by decide)  ?_))
              show J _ _ _ _ _ _ _ [vI (b2i ((0 : Int) ≤ x3 ∧ x3 < gi h 1 0))] _
              refine J_if_ne (tgt := 75) dX7_refusal_69 (by decide) (fun c => ?_) (fun c => ?_)
              · replace K := K.1 (b2i_n0.mp c)
                refine J_aload_n rfl dX7_refusal_75 ?_
                refine J_getS (r := 1) fl_RX7_10 rfl (Or.inl rfl) rfl dX7_refusal_76 ?_
                refine J_getS (r := 8) fl_RX7_129 rfl (Or.inl rfl) rfl dX7_refusal_79 ?_
                refine J_iload_n rfl dX7_refusal_82 ?_
                refine J_iaload (Or.inl rfl) K.1 dX7_refusal_83 ?_
                replace K := K.2
                refine J_istore (loc' := [some (vR (some 0)), some (vI x1), some (vI x2), some (vI x3), some (vI (gi h 8 x2)), none]) (by decide) rfl dX7_refusal_84 ?_
                refine J_iload_n rfl dX7_refusal_86 ?_
                refine J_if_ne (tgt := 128) dX7_refusal_87 (by decide) (fun c => ?_) (fun c => ?_)
                · replace K := K.2 c
                  refine J_iload_n rfl dX7_refusal_128 ?_
                  refine J_iconst (by decide) dX7_refusal_129 ?_
                  refine J_icmp_ne (tgt := 159) dX7_refusal_130 (by decide) (fun c => ?_) (fun c => ?_)
                  · replace K := K.2 c
                    refine J_iload_n rfl dX7_refusal_159 ?_
                    refine J_iconst (by decide) dX7_refusal_160 ?_
                    refine J_icmp_ne (tgt := 180) dX7_refusal_161 (by decide) (fun c => ?_) (fun c => ?_)
                    · replace K := K.2 c
                      refine J_iload rfl dX7_refusal_180 ?_
                      refine J_if_ne (tgt := 217) dX7_refusal_182 (by decide) (fun c => ?_) (fun c => ?_)
                      · replace K := K.2 c
                        refine J_iconst (by decide) dX7_refusal_217 ?_
                        refine J_istore (loc' := [some (vR (some 0)), some (vI x1), some (vI x2), some (vI x3), some (vI (gi h 8 x2)), some (vI 0)]) (by decide) rfl dX7_refusal_218 ?_
                        refine J_iload rfl dX7_refusal_220 ?_
                        refine J_if_eq (tgt := 229) dX7_refusal_222 (by decide) (fun _ => ?_) (fun c => absurd c (by decide))
                        refine J_bipush (by decide) (by decide) dX7_refusal_229 ?_
                        exact J_ireturn rfl dX7_refusal_231 K
                      · replace K := K.1 c
                        refine J_aload_n rfl dX7_refusal_185 ?_
                        refine J_getS (r := 1) fl_RX7_10 rfl (Or.inl rfl) rfl dX7_refusal_186 ?_
                        refine J_iload_n rfl dX7_refusal_189 ?_
                        refine J_b0 (J_callV (b1 := 0) (ci := 0) (vs := [vI x3]) (rest := []) (Or.inr rfl) ml_RX7_108 rfl (by decide) rfl rfl (Or.inl rfl) (Nat.le_of_ble_eq_true rfl) rfl dX7_refusal_190 (c_X0_doorIn (by decide) K.1 ?_))
                        replace K := K.2
                        show J _ _ _ _ _ _ _ [vI (dIn (gi h 7) x3 (gi h 1 2).toNat 0)] _
                        refine J_iconst (by decide) dX7_refusal_193 ?_
                        refine J_icmp_ne (tgt := 217) dX7_refusal_194 (by decide) (fun c => ?_) (fun c => ?_)
                        · replace K := K.2 c
                          refine J_iconst (by decide) dX7_refusal_217 ?_
                          refine J_istore (loc' := [some (vR (some 0)), some (vI x1), some (vI x2), some (vI x3), some (vI (gi h 8 x2)), some (vI 0)]) (by decide) rfl dX7_refusal_218 ?_
                          refine J_iload rfl dX7_refusal_220 ?_
                          refine J_if_eq (tgt := 229) dX7_refusal_222 (by decide) (fun _ => ?_) (fun c => absurd c (by decide))
                          refine J_bipush (by decide) (by decide) dX7_refusal_229 ?_
                          exact J_ireturn rfl dX7_refusal_231 K
                        · replace K := K.1 c
                          refine J_aload_n rfl dX7_refusal_197 ?_
                          refine J_getS (r := 38) fl_RX7_50 rfl (Or.inl rfl) rfl dX7_refusal_198 ?_
                          refine J_aload_n rfl dX7_refusal_201 ?_
                          refine J_getS (r := 1) fl_RX7_10 rfl (Or.inl rfl) rfl dX7_refusal_202 ?_
                          refine J_iload_n rfl dX7_refusal_205 ?_
                          refine J_iload_n rfl dX7_refusal_206 ?_
                          refine J_b0 (J_callV (b1 := 0) (ci := 1) (vs := [vR (some 1), vI x2, vI x3]) (rest := []) (Or.inr rfl) ml_RX7_148 rfl (by decide) rfl rfl (Or.inl rfl) (Nat.le_of_ble_eq_true rfl) rfl dX7_refusal_207 (WM_mono K (fun r h7 K => ?_)))
                          obtain ⟨u7, rfl, K⟩ := K
                          show J _ _ _ _ _ _ _ [vI u7] _
                          refine J_if_eq (tgt := 217) dX7_refusal_210 (by decide) (fun c => ?_) (fun c => ?_)
                          · replace K := K.1 c
                            refine J_iconst (by decide) dX7_refusal_217 ?_
                            refine J_istore (loc' := [some (vR (some 0)), some (vI x1), some (vI x2), some (vI x3), some (vI (gi h 8 x2)), some (vI 0)]) (by decide) rfl dX7_refusal_218 ?_
                            refine J_iload rfl dX7_refusal_220 ?_
                            refine J_if_eq (tgt := 229) dX7_refusal_222 (by decide) (fun _ => ?_) (fun c => absurd c (by decide))
                            refine J_bipush (by decide) (by decide) dX7_refusal_229 ?_
                            exact J_ireturn rfl dX7_refusal_231 K
                          · replace K := K.2 c
                            refine J_iconst (by decide) dX7_refusal_213 ?_
                            refine J_goto (tgt := 218) dX7_refusal_214 (by decide) ?_
                            refine J_istore (loc' := [some (vR (some 0)), some (vI x1), some (vI x2), some (vI x3), some (vI (gi h 8 x2)), some (vI 1)]) (by decide) rfl dX7_refusal_218 ?_
                            refine J_iload rfl dX7_refusal_220 ?_
                            refine J_if_eq (tgt := 229) dX7_refusal_222 (by decide) (fun c => absurd c (by decide)) (fun _ => ?_)
                            refine J_iconst (by decide) dX7_refusal_225 ?_
                            refine J_goto (tgt := 231) dX7_refusal_226 (by decide) ?_
                            exact J_ireturn rfl dX7_refusal_231 K
                    · replace K := K.1 c
                      refine J_iload rfl dX7_refusal_164 ?_
                      refine J_iconst (by decide) dX7_refusal_166 ?_
                      refine J_icmp_eq (tgt := 174) dX7_refusal_167 (by decide) (fun c => ?_) (fun c => ?_)
                      · replace K := K.1 c
                        refine J_iconst (by decide) dX7_refusal_174 ?_
                        refine J_istore (loc' := [some (vR (some 0)), some (vI x1), some (vI x2), some (vI x3), some (vI (gi h 8 x2)), some (vI 0)]) (by decide) rfl dX7_refusal_175 ?_
                        refine J_goto (tgt := 220) dX7_refusal_177 (by decide) ?_
                        refine J_iload rfl dX7_refusal_220 ?_
                        refine J_if_eq (tgt := 229) dX7_refusal_222 (by decide) (fun _ => ?_) (fun c => absurd c (by decide))
                        refine J_bipush (by decide) (by decide) dX7_refusal_229 ?_
                        exact J_ireturn rfl dX7_refusal_231 K
                      · replace K := K.2 c
                        refine J_iconst (by decide) dX7_refusal_170 ?_
                        refine J_goto (tgt := 175) dX7_refusal_171 (by decide) ?_
                        refine J_istore (loc' := [some (vR (some 0)), some (vI x1), some (vI x2), some (vI x3), some (vI (gi h 8 x2)), some (vI 1)]) (by decide) rfl dX7_refusal_175 ?_
                        refine J_goto (tgt := 220) dX7_refusal_177 (by decide) ?_
                        refine J_iload rfl dX7_refusal_220 ?_
                        refine J_if_eq (tgt := 229) dX7_refusal_222 (by decide) (fun c => absurd c (by decide)) (fun _ => ?_)
                        refine J_iconst (by decide) dX7_refusal_225 ?_
                        refine J_goto (tgt := 231) dX7_refusal_226 (by decide) ?_
                        exact J_ireturn rfl dX7_refusal_231 K
                  · replace K := K.1 c
                    refine J_iload rfl dX7_refusal_133 ?_
                    refine J_iconst (by decide) dX7_refusal_135 ?_
                    refine J_icmp_eq (tgt := 153) dX7_refusal_136 (by decide) (fun c => ?_) (fun c => ?_)
                    · replace K := K.1 c
                      refine J_iconst (by decide) dX7_refusal_153 ?_
                      refine J_istore (loc' := [some (vR (some 0)), some (vI x1), some (vI x2), some (vI x3), some (vI (gi h 8 x2)), some (vI 0)]) (by decide) rfl dX7_refusal_154 ?_
                      refine J_goto (tgt := 220) dX7_refusal_156 (by decide) ?_
                      refine J_iload rfl dX7_refusal_220 ?_
                      refine J_if_eq (tgt := 229) dX7_refusal_222 (by decide) (fun _ => ?_) (fun c => absurd c (by decide))
                      refine J_bipush (by decide) (by decide) dX7_refusal_229 ?_
                      exact J_ireturn rfl dX7_refusal_231 K
                    · replace K := K.2 c
                      refine J_iload rfl dX7_refusal_139 ?_
                      refine J_iload_n rfl dX7_refusal_141 ?_
                      refine J_b0 (J_callS (b1 := 0) (vs := [vI (gi h 8 x2), vI x3]) (rest := []) (Or.inr rfl) ml_RX7_326 rfl (by decide) (Nat.le_of_ble_eq_true rfl) rfl dX7_refusal_142 (c_X0_beside  K.1 ?_))
                      replace K := K.2
                      show J _ _ _ _ _ _ _ [vI (zbes (gi h 8 x2) x3)] _
                      refine J_iconst (by decide) dX7_refusal_145 ?_
                      refine J_icmp_eq (tgt := 153) dX7_refusal_146 (by decide) (fun c => ?_) (fun c => ?_)
                      · replace K := K.1 c
                        refine J_iconst (by decide) dX7_refusal_153 ?_
                        refine J_istore (loc' := [some (vR (some 0)), some (vI x1), some (vI x2), some (vI x3), some (vI (gi h 8 x2)), some (vI 0)]) (by decide) rfl dX7_refusal_154 ?_
                        refine J_goto (tgt := 220) dX7_refusal_156 (by decide) ?_
                        refine J_iload rfl dX7_refusal_220 ?_
                        refine J_if_eq (tgt := 229) dX7_refusal_222 (by decide) (fun _ => ?_) (fun c => absurd c (by decide))
                        refine J_bipush (by decide) (by decide) dX7_refusal_229 ?_
                        exact J_ireturn rfl dX7_refusal_231 K
                      · replace K := K.2 c
                        refine J_iconst (by decide) dX7_refusal_149 ?_
                        refine J_goto (tgt := 154) dX7_refusal_150 (by decide) ?_
                        refine J_istore (loc' := [some (vR (some 0)), some (vI x1), some (vI x2), some (vI x3), some (vI (gi h 8 x2)), some (vI 1)]) (by decide) rfl dX7_refusal_154 ?_
                        refine J_goto (tgt := 220) dX7_refusal_156 (by decide) ?_
                        refine J_iload rfl dX7_refusal_220 ?_
                        refine J_if_eq (tgt := 229) dX7_refusal_222 (by decide) (fun c => absurd c (by decide)) (fun _ => ?_)
                        refine J_iconst (by decide) dX7_refusal_225 ?_
                        refine J_goto (tgt := 231) dX7_refusal_226 (by decide) ?_
                        exact J_ireturn rfl dX7_refusal_231 K
                · replace K := K.1 c
                  refine J_aload_n rfl dX7_refusal_90 ?_
                  refine J_getS (r := 1) fl_RX7_10 rfl (Or.inl rfl) rfl dX7_refusal_91 ?_
                  refine J_getS (r := 7) fl_RX7_126 rfl (Or.inl rfl) rfl dX7_refusal_94 ?_
                  refine J_iload_n rfl dX7_refusal_97 ?_
                  refine J_iaload (Or.inl rfl) K.1 dX7_refusal_98 ?_
                  replace K := K.2
                  refine J_iconst (by decide) dX7_refusal_99 ?_
                  refine J_icmp_eq (tgt := 122) dX7_refusal_100 (by decide) (fun c => ?_) (fun c => ?_)
                  · replace K := K.1 c
                    refine J_iconst (by decide) dX7_refusal_122 ?_
                    refine J_istore (loc' := [some (vR (some 0)), some (vI x1), some (vI x2), some (vI x3), some (vI (gi h 8 x2)), some (vI 0)]) (by decide) rfl dX7_refusal_123 ?_
                    refine J_goto (tgt := 220) dX7_refusal_125 (by decide) ?_
                    refine J_iload rfl dX7_refusal_220 ?_
                    refine J_if_eq (tgt := 229) dX7_refusal_222 (by decide) (fun _ => ?_) (fun c => absurd c (by decide))
                    refine J_bipush (by decide) (by decide) dX7_refusal_229 ?_
                    exact J_ireturn rfl dX7_refusal_231 K
                  · replace K := K.2 c
                    refine J_aload_n rfl dX7_refusal_103 ?_
                    refine J_getS (r := 38) fl_RX7_50 rfl (Or.inl rfl) rfl dX7_refusal_104 ?_
                    refine J_aload_n rfl dX7_refusal_107 ?_
                    refine J_getS (r := 1) fl_RX7_10 rfl (Or.inl rfl) rfl dX7_refusal_108 ?_
                    refine J_iload_n rfl dX7_refusal_111 ?_
                    refine J_b0 (J_callV (b1 := 0) (ci := 1) (vs := [vR (some 1), vI x2]) (rest := []) (Or.inr rfl) ml_RX7_144 rfl (by decide) rfl rfl (Or.inl rfl) (Nat.le_of_ble_eq_true rfl) rfl dX7_refusal_112 (WM_mono K (fun r h8 K => ?_)))
                    obtain ⟨u8, rfl, K⟩ := K
                    show J _ _ _ _ _ _ _ [vI u8] _
                    refine J_if_ne (tgt := 122) dX7_refusal_115 (by decide) (fun c => ?_) (fun c => ?_)
                    · replace K := K.2 c
                      refine J_iconst (by decide) dX7_refusal_122 ?_
                      refine J_istore (loc' := [some (vR (some 0)), some (vI x1), some (vI x2), some (vI x3), some (vI (gi h 8 x2)), some (vI 0)]) (by decide) rfl dX7_refusal_123 ?_
                      refine J_goto (tgt := 220) dX7_refusal_125 (by decide) ?_
                      refine J_iload rfl dX7_refusal_220 ?_
                      refine J_if_eq (tgt := 229) dX7_refusal_222 (by decide) (fun _ => ?_) (fun c => absurd c (by decide))
                      refine J_bipush (by decide) (by decide) dX7_refusal_229 ?_
                      exact J_ireturn rfl dX7_refusal_231 K
                    · replace K := K.1 c
                      refine J_iconst (by decide) dX7_refusal_118 ?_
                      refine J_goto (tgt := 123) dX7_refusal_119 (by decide) ?_
                      refine J_istore (loc' := [some (vR (some 0)), some (vI x1), some (vI x2), some (vI x3), some (vI (gi h 8 x2)), some (vI 1)]) (by decide) rfl dX7_refusal_123 ?_
                      refine J_goto (tgt := 220) dX7_refusal_125 (by decide) ?_
                      refine J_iload rfl dX7_refusal_220 ?_
                      refine J_if_eq (tgt := 229) dX7_refusal_222 (by decide) (fun c => absurd c (by decide)) (fun _ => ?_)
                      refine J_iconst (by decide) dX7_refusal_225 ?_
                      refine J_goto (tgt := 231) dX7_refusal_226 (by decide) ?_
                      exact J_ireturn rfl dX7_refusal_231 K
              · replace K := K.2 (b2i_0.mp c)
                refine J_bipush (by decide) (by decide) dX7_refusal_72 ?_
                exact J_ireturn rfl dX7_refusal_74 K
          · replace K := K.2 (b2i_0.mp c)
            refine J_bipush (by decide) (by decide) dX7_refusal_53 ?_
            exact J_ireturn rfl dX7_refusal_55 K
        · replace K := K.2 c
          refine J_iconst (by decide) dX7_refusal_40 ?_
          exact J_ireturn rfl dX7_refusal_41 K
  · replace K := K.1 c
    refine J_aload_n rfl dX7_refusal_5 ?_
    refine J_getS (r := 1) fl_RX7_10 rfl (Or.inl rfl) rfl dX7_refusal_6 ?_
    refine J_getI fl_RX7_175 rfl (Or.inl rfl) dX7_refusal_9 ?_
    refine J_sipush (by decide) (by decide) dX7_refusal_12 ?_
    refine J_icmp_ge (tgt := 22) dX7_refusal_15 (by decide) (fun c => ?_) (fun c => ?_)
    · replace K := K.1 c
      refine J_bipush (by decide) (by decide) dX7_refusal_22 ?_
      exact J_ireturn rfl dX7_refusal_24 K
    · replace K := K.2 c
      refine J_iconst (by decide) dX7_refusal_18 ?_
      refine J_goto (tgt := 24) dX7_refusal_19 (by decide) ?_
      exact J_ireturn rfl dX7_refusal_24 K
set_option maxRecDepth 20000 in
set_option maxHeartbeats 2000000 in
theorem w_X7_deed {d b : Nat} {Q : Option AV → AH → Prop} {h : AH} {x1 : Int} {x2 : Int} {x3 : Int}  (K : WM GX (d + 4) 0 mX7_refusal [vR (some 0), vI x1, vI x2, vI x3] h (fun r h1 => ∃ u1, r = some (vI u1) ∧ (u1 = 0 → WM GX (d + 4) 0 mX7_act [vR (some 0), vI x1, vI x2, vI x3] h1 (fun r h2 => ∃ u2, r = some (vI u2) ∧ WM GX (d + 4) 0 mX6_trim [vR (some 41)] h2 (fun r h3 => r = none ∧ ∀ h4, h4 = si h3 0 14 0 → Q (some (vI u2)) h4))) ∧ (¬(u1 = 0) → (∀ i : Int, 0 ≤ i → i < 5 → 0 ≤ gi h1 14 i ∧ gi h1 14 i ≤ 1000000) ∧ ∀ h5, h5 = xRef h1 u1 → Q (some (vI u1)) h5))) : WM GX (d + 5) b mX7_deed [vR (some 0), vI x1, vI x2, vI x3] h Q := by
  refine WM_introE (loc' := [some (vR (some 0)), some (vI x1), some (vI x2), some (vI x3), none, none]) rfl (by decide) (Nat.le_of_ble_eq_true rfl) ?_
  refine J_aload_n rfl dX7_deed_0 ?_
  refine J_iload_n rfl dX7_deed_1 ?_
  refine J_iload_n rfl dX7_deed_2 ?_
  refine J_iload_n rfl dX7_deed_3 ?_
  refine J_b0 (J_callV (b1 := 0) (ci := 7) (vs := [vI x1, vI x2, vI x3]) (rest := []) (Or.inl rfl) ml_RX7_316 rfl (by decide) rfl rfl (Or.inl rfl) (Nat.le_of_ble_eq_true rfl) rfl dX7_deed_4 (WM_mono K (fun r h1 K => ?_)))
  obtain ⟨u1, rfl, K⟩ := K
  show J _ _ _ _ _ _ _ [vI u1] _
  refine J_istore (loc' := [some (vR (some 0)), some (vI x1), some (vI x2), some (vI x3), some (vI u1), none]) (by decide) rfl dX7_deed_7 ?_
  refine J_iload rfl dX7_deed_9 ?_
  refine J_if_eq (tgt := 21) dX7_deed_11 (by decide) (fun c => ?_) (fun c => ?_)
  · replace K := K.1 c
    refine J_aload_n rfl dX7_deed_21 ?_
    refine J_iload_n rfl dX7_deed_22 ?_
    refine J_iload_n rfl dX7_deed_23 ?_
    refine J_iload_n rfl dX7_deed_24 ?_
    refine J_b0 (J_callV (b1 := 0) (ci := 7) (vs := [vI x1, vI x2, vI x3]) (rest := []) (Or.inl rfl) ml_RX7_319 rfl (by decide) rfl rfl (Or.inl rfl) (Nat.le_of_ble_eq_true rfl) rfl dX7_deed_25 (WM_mono K (fun r h2 K => ?_)))
    obtain ⟨u2, rfl, K⟩ := K
    show J _ _ _ _ _ _ _ [vI u2] _
    refine J_istore (loc' := [some (vR (some 0)), some (vI x1), some (vI x2), some (vI x3), some (vI u1), some (vI u2)]) (by decide) rfl dX7_deed_28 ?_
    refine J_aload_n rfl dX7_deed_30 ?_
    refine J_getS (r := 41) fl_RX7_57 rfl (Or.inl rfl) rfl dX7_deed_31 ?_
    refine J_b0 (J_callV (b1 := 0) (ci := 6) (vs := []) (rest := []) (Or.inr rfl) ml_RX7_227 rfl (by decide) rfl rfl (Or.inl rfl) (Nat.le_of_ble_eq_true rfl) rfl dX7_deed_34 (WM_mono K (fun r h3 K => ?_)))
    obtain ⟨rfl, K⟩ := K
    show J _ _ _ _ _ _ _ [] _
    refine J_aload_n rfl dX7_deed_37 ?_
    refine J_iload rfl dX7_deed_38 ?_
    refine J_b0 (J_callV (b1 := 0) (ci := 7) (vs := [vI u2]) (rest := []) (Or.inl rfl) ml_RX7_98 rfl (by decide) rfl rfl (Or.inl rfl) (Nat.le_of_ble_eq_true rfl) rfl dX7_deed_40 (c_X7_granted   ?_))
    replace K := K _ rfl
    show J _ _ _ _ _ _ _ [vI u2] _
    exact J_ireturn rfl dX7_deed_43 K
  · replace K := K.2 c
    refine J_aload_n rfl dX7_deed_14 ?_
    refine J_iload rfl dX7_deed_15 ?_
    refine J_b0 (J_callV (b1 := 0) (ci := 7) (vs := [vI u1]) (rest := []) (Or.inl rfl) ml_RX7_88 rfl (by decide) rfl rfl (Or.inl rfl) (Nat.le_of_ble_eq_true rfl) rfl dX7_deed_17 (c_X7_refuse  K.1 ?_))
    replace K := K.2
    replace K := K _ rfl
    show J _ _ _ _ _ _ _ [vI u1] _
    exact J_ireturn rfl dX7_deed_20 K
set_option maxRecDepth 20000 in
set_option maxHeartbeats 2000000 in
theorem w_X7_launch {d b : Nat} {Q : Option AV → AH → Prop} {h : AH} {x1 : Int}  (K : R32 x1 → WM GX (d + 5) 0 mX7_deed [vR (some 0), vI 0, vI x1, vI (-1)] h (fun r h1 => ∃ u1, r = some (vI u1) ∧ Q (some (vI u1)) h1)) : WM GX (d + 6) b mX7_launch [vR (some 0), vI x1] h Q := by
  refine WM_introE (loc' := [some (vR (some 0)), some (vI x1)]) rfl (by decide) (Nat.le_of_ble_eq_true rfl) ?_
  refine J_rgl (i := 1) rfl (fun r1 => ?_)
  replace K := K r1
  refine J_aload_n rfl dX7_launch_0 ?_
  refine J_iconst (by decide) dX7_launch_1 ?_
  refine J_iload_n rfl dX7_launch_2 ?_
  refine J_iconst (by decide) dX7_launch_3 ?_
  refine J_b0 (J_callV (b1 := 0) (ci := 7) (vs := [vI 0, vI x1, vI (-1)]) (rest := []) (Or.inl rfl) ml_RX7_236 rfl (by decide) rfl rfl (Or.inl rfl) (Nat.le_of_ble_eq_true rfl) rfl dX7_launch_4 (WM_mono K (fun r h1 K => ?_)))
  obtain ⟨u1, rfl, K⟩ := K
  show J _ _ _ _ _ _ _ [vI u1] _
  exact J_ireturn rfl dX7_launch_7 K
set_option maxRecDepth 20000 in
set_option maxHeartbeats 2000000 in
theorem w_X7_sail {d b : Nat} {Q : Option AV → AH → Prop} {h : AH} {x1 : Int} {x2 : Int}  (K : R32 x1 → R32 x2 → WM GX (d + 5) 0 mX7_deed [vR (some 0), vI 1, vI x1, vI x2] h (fun r h1 => ∃ u1, r = some (vI u1) ∧ Q (some (vI u1)) h1)) : WM GX (d + 6) b mX7_sail [vR (some 0), vI x1, vI x2] h Q := by
  refine WM_introE (loc' := [some (vR (some 0)), some (vI x1), some (vI x2)]) rfl (by decide) (Nat.le_of_ble_eq_true rfl) ?_
  refine J_rgl (i := 1) rfl (fun r1 => ?_)
  replace K := K r1
  refine J_rgl (i := 2) rfl (fun r2 => ?_)
  replace K := K r2
  refine J_aload_n rfl dX7_sail_0 ?_
  refine J_iconst (by decide) dX7_sail_1 ?_
  refine J_iload_n rfl dX7_sail_2 ?_
  refine J_iload_n rfl dX7_sail_3 ?_
  refine J_b0 (J_callV (b1 := 0) (ci := 7) (vs := [vI 1, vI x1, vI x2]) (rest := []) (Or.inl rfl) ml_RX7_236 rfl (by decide) rfl rfl (Or.inl rfl) (Nat.le_of_ble_eq_true rfl) rfl dX7_sail_4 (WM_mono K (fun r h1 K => ?_)))
  obtain ⟨u1, rfl, K⟩ := K
  show J _ _ _ _ _ _ _ [vI u1] _
  exact J_ireturn rfl dX7_sail_7 K
set_option maxRecDepth 20000 in
set_option maxHeartbeats 2000000 in
theorem w_X7_fish {d b : Nat} {Q : Option AV → AH → Prop} {h : AH} {x1 : Int}  (K : R32 x1 → WM GX (d + 5) 0 mX7_deed [vR (some 0), vI 2, vI x1, vI (-1)] h (fun r h1 => ∃ u1, r = some (vI u1) ∧ Q (some (vI u1)) h1)) : WM GX (d + 6) b mX7_fish [vR (some 0), vI x1] h Q := by
  refine WM_introE (loc' := [some (vR (some 0)), some (vI x1)]) rfl (by decide) (Nat.le_of_ble_eq_true rfl) ?_
  refine J_rgl (i := 1) rfl (fun r1 => ?_)
  replace K := K r1
  refine J_aload_n rfl dX7_fish_0 ?_
  refine J_iconst (by decide) dX7_fish_1 ?_
  refine J_iload_n rfl dX7_fish_2 ?_
  refine J_iconst (by decide) dX7_fish_3 ?_
  refine J_b0 (J_callV (b1 := 0) (ci := 7) (vs := [vI 2, vI x1, vI (-1)]) (rest := []) (Or.inl rfl) ml_RX7_236 rfl (by decide) rfl rfl (Or.inl rfl) (Nat.le_of_ble_eq_true rfl) rfl dX7_fish_4 (WM_mono K (fun r h1 K => ?_)))
  obtain ⟨u1, rfl, K⟩ := K
  show J _ _ _ _ _ _ _ [vI u1] _
  exact J_ireturn rfl dX7_fish_7 K
set_option maxRecDepth 20000 in
set_option maxHeartbeats 2000000 in
theorem w_X7_hang {d b : Nat} {Q : Option AV → AH → Prop} {h : AH} {x1 : Int} {x2 : Int}  (K : R32 x1 → R32 x2 → WM GX (d + 5) 0 mX7_deed [vR (some 0), vI 3, vI x1, vI x2] h (fun r h1 => ∃ u1, r = some (vI u1) ∧ Q (some (vI u1)) h1)) : WM GX (d + 6) b mX7_hang [vR (some 0), vI x1, vI x2] h Q := by
  refine WM_introE (loc' := [some (vR (some 0)), some (vI x1), some (vI x2)]) rfl (by decide) (Nat.le_of_ble_eq_true rfl) ?_
  refine J_rgl (i := 1) rfl (fun r1 => ?_)
  replace K := K r1
  refine J_rgl (i := 2) rfl (fun r2 => ?_)
  replace K := K r2
  refine J_aload_n rfl dX7_hang_0 ?_
  refine J_iconst (by decide) dX7_hang_1 ?_
  refine J_iload_n rfl dX7_hang_2 ?_
  refine J_iload_n rfl dX7_hang_3 ?_
  refine J_b0 (J_callV (b1 := 0) (ci := 7) (vs := [vI 3, vI x1, vI x2]) (rest := []) (Or.inl rfl) ml_RX7_236 rfl (by decide) rfl rfl (Or.inl rfl) (Nat.le_of_ble_eq_true rfl) rfl dX7_hang_4 (WM_mono K (fun r h1 K => ?_)))
  obtain ⟨u1, rfl, K⟩ := K
  show J _ _ _ _ _ _ _ [vI u1] _
  exact J_ireturn rfl dX7_hang_7 K
set_option maxRecDepth 20000 in
set_option maxHeartbeats 2000000 in
theorem w_X7_tide {d b : Nat} {Q : Option AV → AH → Prop} {h : AH}   (K : WM GX (d + 5) 0 mX7_deed [vR (some 0), vI 4, vI (-1), vI (-1)] h (fun r h1 => ∃ u1, r = some (vI u1) ∧ Q (some (vI u1)) h1)) : WM GX (d + 6) b mX7_tide [vR (some 0)] h Q := by
  refine WM_introE (loc' := [some (vR (some 0))]) rfl (by decide) (Nat.le_of_ble_eq_true rfl) ?_
  refine J_aload_n rfl dX7_tide_0 ?_
  refine J_iconst (by decide) dX7_tide_1 ?_
  refine J_iconst (by decide) dX7_tide_2 ?_
  refine J_iconst (by decide) dX7_tide_3 ?_
  refine J_b0 (J_callV (b1 := 0) (ci := 7) (vs := [vI 4, vI (-1), vI (-1)]) (rest := []) (Or.inl rfl) ml_RX7_236 rfl (by decide) rfl rfl (Or.inl rfl) (Nat.le_of_ble_eq_true rfl) rfl dX7_tide_4 (WM_mono K (fun r h1 K => ?_)))
  obtain ⟨u1, rfl, K⟩ := K
  show J _ _ _ _ _ _ _ [vI u1] _
  exact J_ireturn rfl dX7_tide_7 K
set_option maxRecDepth 20000 in
set_option maxHeartbeats 2000000 in
theorem w_X7_undo {d b : Nat} {Q : Option AV → AH → Prop} {h : AH}   (K : (gi h 41 1 = 0 → (∀ i : Int, 0 ≤ i → i < 5 → 0 ≤ gi h 14 i ∧ gi h 14 i ≤ 1000000) ∧ ∀ h3, h3 = xRef h (-3) → Q (some (vI (-3))) h3) ∧ (¬(gi h 41 1 = 0) → R32 ((gi h 41 1) - 1) ∧ WM GX (d + 1) 0 mX6_backTo [vR (some 41), vI ((gi h 41 1) - 1), vR (some 1)] h (fun r h1 => ∃ u1, r = some (vI u1) ∧ ∀ h2, h2 = si h1 0 14 0 → Q (some (vI u1)) h2))) : WM GX (d + 2) b mX7_undo [vR (some 0)] h Q := by
  refine WM_introE (loc' := [some (vR (some 0))]) rfl (by decide) (Nat.le_of_ble_eq_true rfl) ?_
  refine J_aload_n rfl dX7_undo_0 ?_
  refine J_getS (r := 41) fl_RX7_57 rfl (Or.inl rfl) rfl dX7_undo_1 ?_
  refine J_getI fl_RX7_135 rfl (Or.inl rfl) dX7_undo_4 ?_
  refine J_if_ne (tgt := 17) dX7_undo_7 (by decide) (fun c => ?_) (fun c => ?_)
  · replace K := K.2 c
    refine J_aload_n rfl dX7_undo_17 ?_
    refine J_aload_n rfl dX7_undo_18 ?_
    refine J_getS (r := 41) fl_RX7_57 rfl (Or.inl rfl) rfl dX7_undo_19 ?_
    refine J_aload_n rfl dX7_undo_22 ?_
    refine J_getS (r := 41) fl_RX7_57 rfl (Or.inl rfl) rfl dX7_undo_23 ?_
    refine J_getI fl_RX7_135 rfl (Or.inl rfl) dX7_undo_26 ?_
    refine J_iconst (by decide) dX7_undo_29 ?_
    refine J_isub K.1 dX7_undo_30 ?_
    replace K := K.2
    refine J_aload_n rfl dX7_undo_31 ?_
    refine J_getS (r := 1) fl_RX7_10 rfl (Or.inl rfl) rfl dX7_undo_32 ?_
    refine J_b0 (J_callV (b1 := 0) (ci := 6) (vs := [vI ((gi h 41 1) - 1), vR (some 1)]) (rest := [vR (some 0)]) (Or.inr rfl) ml_RX7_223 rfl (by decide) rfl rfl (Or.inl rfl) (Nat.le_of_ble_eq_true rfl) rfl dX7_undo_35 (WM_mono K (fun r h1 K => ?_)))
    obtain ⟨u1, rfl, K⟩ := K
    show J _ _ _ _ _ _ _ [vI u1, vR (some 0)] _
    refine J_b0 (J_callV (b1 := 0) (ci := 7) (vs := [vI u1]) (rest := []) (Or.inl rfl) ml_RX7_98 rfl (by decide) rfl rfl (Or.inl rfl) (Nat.le_of_ble_eq_true rfl) rfl dX7_undo_38 (c_X7_granted   ?_))
    replace K := K _ rfl
    show J _ _ _ _ _ _ _ [vI u1] _
    exact J_ireturn rfl dX7_undo_41 K
  · replace K := K.1 c
    refine J_aload_n rfl dX7_undo_10 ?_
    refine J_bipush (by decide) (by decide) dX7_undo_11 ?_
    refine J_b0 (J_callV (b1 := 0) (ci := 7) (vs := [vI (-3)]) (rest := []) (Or.inl rfl) ml_RX7_88 rfl (by decide) rfl rfl (Or.inl rfl) (Nat.le_of_ble_eq_true rfl) rfl dX7_undo_13 (c_X7_refuse  K.1 ?_))
    replace K := K.2
    replace K := K _ rfl
    show J _ _ _ _ _ _ _ [vI (-3)] _
    exact J_ireturn rfl dX7_undo_16 K
def Lp_X7_row_31 (d b : Nat) (Q : Option AV → AH → Prop)  (y1 : Int) (y2 : Int) (y3 : Int) (h : AH) : Prop := J GX (d + 1) b mX7_row Q 31 [some (vR (some 0)), some (vI y1), some (vI y2), some (vI y3), none, none, none] [] h
set_option maxRecDepth 20000 in
set_option maxHeartbeats 2000000 in
theorem l_X7_row_31 {d b : Nat} {Q : Option AV → AH → Prop} {h : AH}  {y1 : Int} {y2 : Int} {y3 : Int}  (K : R32 (y3 + 1) ∧ (y1 ≤ y3 + 1 → R32 (y1 + 1) ∧ R32 (Int.tdiv (y1 + 1) 2) ∧ R32 ((Int.tdiv (y1 + 1) 2) - y2) ∧ ∀ h1, h1 = si h 0 10 ((Int.tdiv (y1 + 1) 2) - y2) → ∀ h2, h2 = si h1 41 1 0 → ∀ h3, h3 = si h2 0 14 0 → Q (some (vI y2)) h3) ∧ (¬(y1 ≤ y3 + 1) → R32 (Int.tdiv y3 2) ∧ (0 ≤ y3 ∧ y3 < 400) ∧ R32 (y3 + 1) ∧ (0 ≤ y3 + 1 ∧ y3 + 1 < 400) ∧ (25 ≤ Int.tdiv y3 2 → R32 (y3 + 2) ∧ Lp_X7_row_31 d b Q y1 y2 (y3 + 2) h) ∧ (¬(25 ≤ Int.tdiv y3 2) → (99 < gi h 30 y3 → R32 (y3 + 2) ∧ Lp_X7_row_31 d b Q y1 y2 (y3 + 2) h) ∧ (¬(99 < gi h 30 y3) → (4 < gi h 30 (y3 + 1) → R32 (y3 + 2) ∧ Lp_X7_row_31 d b Q y1 y2 (y3 + 2) h) ∧ (¬(4 < gi h 30 (y3 + 1)) → (0 ≤ Int.tdiv y3 2 ∧ Int.tdiv y3 2 < 25) ∧ ∀ h4, h4 = si h 10 (Int.tdiv y3 2) (gi h 30 y3) → (0 ≤ Int.tdiv y3 2 ∧ Int.tdiv y3 2 < 25) ∧ ∀ h5, h5 = si h4 11 (Int.tdiv y3 2) (gi h 30 (y3 + 1)) → R32 (y2 + 1) ∧ R32 (y3 + 2) ∧ Lp_X7_row_31 d b Q y1 (y2 + 1) (y3 + 2) h5))))) : Lp_X7_row_31 d b Q y1 y2 y3 h := by
  unfold Lp_X7_row_31
  refine J_iload_n rfl dX7_row_31 ?_
  refine J_iconst (by decide) dX7_row_32 ?_
  refine J_iadd K.1 dX7_row_33 ?_
  replace K := K.2
  refine J_iload_n rfl dX7_row_34 ?_
  refine J_icmp_ge (tgt := 120) dX7_row_35 (by decide) (fun c => ?_) (fun c => ?_)
  · replace K := K.1 c
    refine J_aload_n rfl dX7_row_120 ?_
    refine J_iload_n rfl dX7_row_121 ?_
    refine J_iconst (by decide) dX7_row_122 ?_
    refine J_iadd K.1 dX7_row_123 ?_
    replace K := K.2
    refine J_iconst (by decide) dX7_row_124 ?_
    refine J_idiv (by decide) K.1 dX7_row_125 ?_
    replace K := K.2
    refine J_iload_n rfl dX7_row_126 ?_
    refine J_isub K.1 dX7_row_127 ?_
    replace K := K.2
    refine J_putI fl_RX7_68 rfl (Or.inl rfl) dX7_row_128 ?_
    replace K := K _ rfl
    refine J_aload_n rfl dX7_row_131 ?_
    refine J_getS (r := 41) fl_RX7_57 rfl (Or.inl rfl) rfl dX7_row_132 ?_
    refine J_iconst (by decide) dX7_row_135 ?_
    refine J_putI fl_RX7_135 rfl (Or.inl rfl) dX7_row_136 ?_
    replace K := K _ rfl
    refine J_aload_n rfl dX7_row_139 ?_
    refine J_iload_n rfl dX7_row_140 ?_
    refine J_b0 (J_callV (b1 := 0) (ci := 7) (vs := [vI y2]) (rest := []) (Or.inl rfl) ml_RX7_98 rfl (by decide) rfl rfl (Or.inl rfl) (Nat.le_of_ble_eq_true rfl) rfl dX7_row_141 (c_X7_granted   ?_))
    replace K := K _ rfl
    show J _ _ _ _ _ _ _ [vI y2] _
    exact J_ireturn rfl dX7_row_144 K
  · replace K := K.2 c
    refine J_iload_n rfl dX7_row_38 ?_
    refine J_iconst (by decide) dX7_row_39 ?_
    refine J_idiv (by decide) K.1 dX7_row_40 ?_
    replace K := K.2
    refine J_istore (loc' := [some (vR (some 0)), some (vI y1), some (vI y2), some (vI y3), some (vI (Int.tdiv y3 2)), none, none]) (by decide) rfl dX7_row_41 ?_
    refine J_aload_n rfl dX7_row_43 ?_
    refine J_getS (r := 29) fl_RX7_36 rfl (Or.inl rfl) rfl dX7_row_44 ?_
    refine J_getS (r := 30) fl_RX7_188 rfl (Or.inl rfl) rfl dX7_row_47 ?_
    refine J_iload_n rfl dX7_row_50 ?_
    refine J_iaload (Or.inl rfl) K.1 dX7_row_51 ?_
    replace K := K.2
    refine J_istore (loc' := [some (vR (some 0)), some (vI y1), some (vI y2), some (vI y3), some (vI (Int.tdiv y3 2)), some (vI (gi h 30 y3)), none]) (by decide) rfl dX7_row_52 ?_
    refine J_aload_n rfl dX7_row_54 ?_
    refine J_getS (r := 29) fl_RX7_36 rfl (Or.inl rfl) rfl dX7_row_55 ?_
    refine J_getS (r := 30) fl_RX7_188 rfl (Or.inl rfl) rfl dX7_row_58 ?_
    refine J_iload_n rfl dX7_row_61 ?_
    refine J_iconst (by decide) dX7_row_62 ?_
    refine J_iadd K.1 dX7_row_63 ?_
    replace K := K.2
    refine J_iaload (Or.inl rfl) K.1 dX7_row_64 ?_
    replace K := K.2
    refine J_istore (loc' := [some (vR (some 0)), some (vI y1), some (vI y2), some (vI y3), some (vI (Int.tdiv y3 2)), some (vI (gi h 30 y3)), some (vI (gi h 30 (y3 + 1)))]) (by decide) rfl dX7_row_65 ?_
    refine J_iload rfl dX7_row_67 ?_
    refine J_bipush (by decide) (by decide) dX7_row_69 ?_
    refine J_icmp_ge (tgt := 114) dX7_row_71 (by decide) (fun c => ?_) (fun c => ?_)
    · replace K := K.1 c
      refine J_iinc (loc' := [some (vR (some 0)), some (vI y1), some (vI y2), some (vI (y3 + 2)), some (vI (Int.tdiv y3 2)), some (vI (gi h 30 y3)), some (vI (gi h 30 (y3 + 1)))]) (by decide) rfl K.1 rfl dX7_row_114 ?_
      replace K := K.2
      refine J_goto (tgt := 31) dX7_row_117 (by decide) ?_
      exact J_forget (loc' := [some (vR (some 0)), some (vI y1), some (vI y2), some (vI (y3 + 2)), none, none, none]) (And.intro (Or.inr rfl) (And.intro (Or.inr rfl) (And.intro (Or.inr rfl) (And.intro (Or.inr rfl) (And.intro (Or.inl rfl) (And.intro (Or.inl rfl) (And.intro (Or.inl rfl) True.intro))))))) K
    · replace K := K.2 c
      refine J_iload rfl dX7_row_74 ?_
      refine J_bipush (by decide) (by decide) dX7_row_76 ?_
      refine J_icmp_gt (tgt := 114) dX7_row_78 (by decide) (fun c => ?_) (fun c => ?_)
      · replace K := K.1 c
        refine J_iinc (loc' := [some (vR (some 0)), some (vI y1), some (vI y2), some (vI (y3 + 2)), some (vI (Int.tdiv y3 2)), some (vI (gi h 30 y3)), some (vI (gi h 30 (y3 + 1)))]) (by decide) rfl K.1 rfl dX7_row_114 ?_
        replace K := K.2
        refine J_goto (tgt := 31) dX7_row_117 (by decide) ?_
        exact J_forget (loc' := [some (vR (some 0)), some (vI y1), some (vI y2), some (vI (y3 + 2)), none, none, none]) (And.intro (Or.inr rfl) (And.intro (Or.inr rfl) (And.intro (Or.inr rfl) (And.intro (Or.inr rfl) (And.intro (Or.inl rfl) (And.intro (Or.inl rfl) (And.intro (Or.inl rfl) True.intro))))))) K
      · replace K := K.2 c
        refine J_iload rfl dX7_row_81 ?_
        refine J_iconst (by decide) dX7_row_83 ?_
        refine J_icmp_gt (tgt := 114) dX7_row_84 (by decide) (fun c => ?_) (fun c => ?_)
        · replace K := K.1 c
          refine J_iinc (loc' := [some (vR (some 0)), some (vI y1), some (vI y2), some (vI (y3 + 2)), some (vI (Int.tdiv y3 2)), some (vI (gi h 30 y3)), some (vI (gi h 30 (y3 + 1)))]) (by decide) rfl K.1 rfl dX7_row_114 ?_
          replace K := K.2
          refine J_goto (tgt := 31) dX7_row_117 (by decide) ?_
          exact J_forget (loc' := [some (vR (some 0)), some (vI y1), some (vI y2), some (vI (y3 + 2)), none, none, none]) (And.intro (Or.inr rfl) (And.intro (Or.inr rfl) (And.intro (Or.inr rfl) (And.intro (Or.inr rfl) (And.intro (Or.inl rfl) (And.intro (Or.inl rfl) (And.intro (Or.inl rfl) True.intro))))))) K
        · replace K := K.2 c
          refine J_aload_n rfl dX7_row_87 ?_
          refine J_getS (r := 1) fl_RX7_10 rfl (Or.inl rfl) rfl dX7_row_88 ?_
          refine J_getS (r := 10) fl_RX7_155 rfl (Or.inl rfl) rfl dX7_row_91 ?_
          refine J_iload rfl dX7_row_94 ?_
          refine J_iload rfl dX7_row_96 ?_
          refine J_iastore (Or.inl rfl) K.1 dX7_row_98 ?_
          replace K := K.2
          replace K := K _ rfl
          refine J_aload_n rfl dX7_row_99 ?_
          refine J_getS (r := 1) fl_RX7_10 rfl (Or.inl rfl) rfl dX7_row_100 ?_
          refine J_getS (r := 11) fl_RX7_158 rfl (Or.inl rfl) rfl dX7_row_103 ?_
          refine J_iload rfl dX7_row_106 ?_
          refine J_iload rfl dX7_row_108 ?_
          refine J_iastore (Or.inl rfl) K.1 dX7_row_110 ?_
          replace K := K.2
          replace K := K _ rfl
          refine J_iinc (loc' := [some (vR (some 0)), some (vI y1), some (vI (y2 + 1)), some (vI y3), some (vI (Int.tdiv y3 2)), some (vI (gi h 30 y3)), some (vI (gi h 30 (y3 + 1)))]) (by decide) rfl K.1 rfl dX7_row_111 ?_
          replace K := K.2
          refine J_iinc (loc' := [some (vR (some 0)), some (vI y1), some (vI (y2 + 1)), some (vI (y3 + 2)), some (vI (Int.tdiv y3 2)), some (vI (gi h 30 y3)), some (vI (gi h 30 (y3 + 1)))]) (by decide) rfl K.1 rfl dX7_row_114 ?_
          replace K := K.2
          refine J_goto (tgt := 31) dX7_row_117 (by decide) ?_
          exact J_forget (loc' := [some (vR (some 0)), some (vI y1), some (vI (y2 + 1)), some (vI (y3 + 2)), none, none, none]) (And.intro (Or.inr rfl) (And.intro (Or.inr rfl) (And.intro (Or.inr rfl) (And.intro (Or.inr rfl) (And.intro (Or.inl rfl) (And.intro (Or.inl rfl) (And.intro (Or.inl rfl) True.intro))))))) K
set_option maxRecDepth 20000 in
set_option maxHeartbeats 2000000 in
theorem w_X7_row {d b : Nat} {Q : Option AV → AH → Prop} {h : AH}   (K : ∀ h1, h1 = si h 29 1 0 → (gi h 29 1 = 0 → (∀ i : Int, 0 ≤ i → i < 5 → 0 ≤ gi h1 14 i ∧ gi h1 14 i ≤ 1000000) ∧ ∀ h2, h2 = xRef h1 (-6) → Q (some (vI (-6))) h2) ∧ (¬(gi h 29 1 = 0) → Lp_X7_row_31 d b Q (gi h 29 1) 0 0 h1)) : WM GX (d + 1) b mX7_row [vR (some 0)] h Q := by
  refine WM_introE (loc' := [some (vR (some 0)), none, none, none, none, none, none]) rfl (by decide) (Nat.le_of_ble_eq_true rfl) ?_
  refine J_aload_n rfl dX7_row_0 ?_
  refine J_getS (r := 29) fl_RX7_36 rfl (Or.inl rfl) rfl dX7_row_1 ?_
  refine J_getI fl_RX7_181 rfl (Or.inl rfl) dX7_row_4 ?_
  refine J_istore_n (loc' := [some (vR (some 0)), some (vI (gi h 29 1)), none, none, none, none, none]) (by decide) rfl dX7_row_7 ?_
  refine J_aload_n rfl dX7_row_8 ?_
  refine J_getS (r := 29) fl_RX7_36 rfl (Or.inl rfl) rfl dX7_row_9 ?_
  refine J_iconst (by decide) dX7_row_12 ?_
  refine J_putI fl_RX7_181 rfl (Or.inl rfl) dX7_row_13 ?_
  replace K := K _ rfl
  refine J_iload_n rfl dX7_row_16 ?_
  refine J_if_ne (tgt := 27) dX7_row_17 (by decide) (fun c => ?_) (fun c => ?_)
  · replace K := K.2 c
    refine J_iconst (by decide) dX7_row_27 ?_
    refine J_istore_n (loc' := [some (vR (some 0)), some (vI (gi h 29 1)), some (vI 0), none, none, none, none]) (by decide) rfl dX7_row_28 ?_
    refine J_iconst (by decide) dX7_row_29 ?_
    refine J_istore_n (loc' := [some (vR (some 0)), some (vI (gi h 29 1)), some (vI 0), some (vI 0), none, none, none]) (by decide) rfl dX7_row_30 ?_
    exact J_forget (loc' := [some (vR (some 0)), some (vI (gi h 29 1)), some (vI 0), some (vI 0), none, none, none]) (And.intro (Or.inr rfl) (And.intro (Or.inr rfl) (And.intro (Or.inr rfl) (And.intro (Or.inr rfl) (And.intro (Or.inl rfl) (And.intro (Or.inl rfl) (And.intro (Or.inl rfl) True.intro))))))) K
  · replace K := K.1 c
    refine J_aload_n rfl dX7_row_20 ?_
    refine J_bipush (by decide) (by decide) dX7_row_21 ?_
    refine J_b0 (J_callV (b1 := 0) (ci := 7) (vs := [vI (-6)]) (rest := []) (Or.inl rfl) ml_RX7_88 rfl (by decide) rfl rfl (Or.inl rfl) (Nat.le_of_ble_eq_true rfl) rfl dX7_row_23 (c_X7_refuse  K.1 ?_))
    replace K := K.2
    replace K := K _ rfl
    show J _ _ _ _ _ _ _ [vI (-6)] _
    exact J_ireturn rfl dX7_row_26 K
def Lp_X8_remember_11 (d b : Nat) (Q : Option AV → AH → Prop)  (y1 : Int) (y2 : Int) (h : AH) : Prop := J GM (d + 1) b mX8_remember Q 11 [some (vR (some 0)), some (vI y1), some (vI y2)] [] h
def Lp_X8_remember_41 (d b : Nat) (Q : Option AV → AH → Prop)  (y1 : Int) (y2 : Int) (h : AH) : Prop := J GM (d + 1) b mX8_remember Q 41 [some (vR (some 0)), some (vI y1), some (vI y2)] [] h
set_option maxRecDepth 20000 in
set_option maxHeartbeats 2000000 in
theorem l_X8_remember_11 {d b : Nat} {Q : Option AV → AH → Prop} {h : AH}  {y1 : Int} {y2 : Int}  (K : (885 ≤ y2 → Lp_X8_remember_41 d b Q y1 0 h) ∧ (¬(885 ≤ y2) → R32 (y2 + 59) ∧ (0 ≤ y2 + 59 ∧ y2 + 59 < 1062) ∧ (0 ≤ y2 ∧ y2 < 1062) ∧ ∀ h1, h1 = si h 5 y2 (gi h 5 (y2 + 59)) → R32 (y2 + 1) ∧ Lp_X8_remember_11 d b Q y1 (y2 + 1) h1)) : Lp_X8_remember_11 d b Q y1 y2 h := by
  unfold Lp_X8_remember_11
  refine J_iload_n rfl dX8_remember_11 ?_
  refine J_sipush (by decide) (by decide) dX8_remember_12 ?_
  refine J_icmp_ge (tgt := 39) dX8_remember_15 (by decide) (fun c => ?_) (fun c => ?_)
  · replace K := K.1 c
    refine J_iconst (by decide) dX8_remember_39 ?_
    refine J_istore_n (loc' := [some (vR (some 0)), some (vI y1), some (vI 0)]) (by decide) rfl dX8_remember_40 ?_
    exact J_forget (loc' := [some (vR (some 0)), some (vI y1), some (vI 0)]) (And.intro (Or.inr rfl) (And.intro (Or.inr rfl) (And.intro (Or.inr rfl) True.intro))) K
  · replace K := K.2 c
    refine J_aload_n rfl dX8_remember_18 ?_
    refine J_getS (r := 5) fl_RX8_23 rfl (Or.inl rfl) rfl dX8_remember_19 ?_
    refine J_iload_n rfl dX8_remember_22 ?_
    refine J_aload_n rfl dX8_remember_23 ?_
    refine J_getS (r := 5) fl_RX8_23 rfl (Or.inl rfl) rfl dX8_remember_24 ?_
    refine J_iload_n rfl dX8_remember_27 ?_
    refine J_bipush (by decide) (by decide) dX8_remember_28 ?_
    refine J_iadd K.1 dX8_remember_30 ?_
    replace K := K.2
    refine J_iaload (Or.inl rfl) K.1 dX8_remember_31 ?_
    replace K := K.2
    refine J_iastore (Or.inl rfl) K.1 dX8_remember_32 ?_
    replace K := K.2
    replace K := K _ rfl
    refine J_iinc (loc' := [some (vR (some 0)), some (vI y1), some (vI (y2 + 1))]) (by decide) rfl K.1 rfl dX8_remember_33 ?_
    replace K := K.2
    refine J_goto (tgt := 11) dX8_remember_36 (by decide) ?_
    exact J_forget (loc' := [some (vR (some 0)), some (vI y1), some (vI (y2 + 1))]) (And.intro (Or.inr rfl) (And.intro (Or.inr rfl) (And.intro (Or.inr rfl) True.intro))) K
set_option maxRecDepth 20000 in
set_option maxHeartbeats 2000000 in
theorem l_X8_remember_41 {d b : Nat} {Q : Option AV → AH → Prop} {h : AH}  {y1 : Int} {y2 : Int}  (K : (15 ≤ y2 → R32 ((gi h 0 8) - 1) ∧ ∀ h1, h1 = si h 0 8 ((gi h 0 8) - 1) → WM GM d 0 mX8_keepAll [vR (some 0), vI ((gi h 0 8) - 1)] h1 (fun r h2 => r = none ∧ (0 ≤ gi h2 0 8 ∧ gi h2 0 8 < 16) ∧ ∀ h3, h3 = si h2 6 (gi h2 0 8) y1 → R32 ((gi h2 0 8) + 1) ∧ ∀ h4, h4 = si h3 0 8 ((gi h2 0 8) + 1) → Q none h4)) ∧ (¬(15 ≤ y2) → R32 (y2 + 1) ∧ (0 ≤ y2 + 1 ∧ y2 + 1 < 16) ∧ (0 ≤ y2 ∧ y2 < 16) ∧ ∀ h5, h5 = si h 6 y2 (gi h 6 (y2 + 1)) → R32 (y2 + 1) ∧ Lp_X8_remember_41 d b Q y1 (y2 + 1) h5)) : Lp_X8_remember_41 d b Q y1 y2 h := by
  unfold Lp_X8_remember_41
  refine J_iload_n rfl dX8_remember_41 ?_
  refine J_bipush (by decide) (by decide) dX8_remember_42 ?_
  refine J_icmp_ge (tgt := 67) dX8_remember_44 (by decide) (fun c => ?_) (fun c => ?_)
  · replace K := K.1 c
    refine J_aload_n rfl dX8_remember_67 ?_
    refine J_dup rfl dX8_remember_68 ?_
    refine J_getI fl_RX8_167 rfl (Or.inl rfl) dX8_remember_69 ?_
    refine J_iconst (by decide) dX8_remember_72 ?_
    refine J_isub K.1 dX8_remember_73 ?_
    replace K := K.2
    refine J_putI fl_RX8_167 rfl (Or.inl rfl) dX8_remember_74 ?_
    replace K := K _ rfl
    refine J_aload_n rfl dX8_remember_77 ?_
    refine J_aload_n rfl dX8_remember_78 ?_
    refine J_getIe fl_RX8_167 rfl (Or.inl rfl) gi_eq dX8_remember_79 ?_
    refine J_b0 (J_callV (b1 := 0) (ci := 8) (vs := [vI ((gi h 0 8) - 1)]) (rest := []) (Or.inl rfl) ml_RX8_174 rfl (by decide) rfl rfl (Or.inl rfl) (Nat.le_of_ble_eq_true rfl) rfl dX8_remember_82 (WM_mono K (fun r h2 K => ?_)))
    obtain ⟨rfl, K⟩ := K
    show J _ _ _ _ _ _ _ [] _
    refine J_aload_n rfl dX8_remember_85 ?_
    refine J_getS (r := 6) fl_RX8_26 rfl (Or.inl rfl) rfl dX8_remember_86 ?_
    refine J_aload_n rfl dX8_remember_89 ?_
    refine J_getI fl_RX8_167 rfl (Or.inl rfl) dX8_remember_90 ?_
    refine J_iload_n rfl dX8_remember_93 ?_
    refine J_iastore (Or.inl rfl) K.1 dX8_remember_94 ?_
    replace K := K.2
    replace K := K _ rfl
    refine J_aload_n rfl dX8_remember_95 ?_
    refine J_dup rfl dX8_remember_96 ?_
    refine J_getIe fl_RX8_167 rfl (Or.inl rfl) (gi_no (by decide)) dX8_remember_97 ?_
    refine J_iconst (by decide) dX8_remember_100 ?_
    refine J_iadd K.1 dX8_remember_101 ?_
    replace K := K.2
    refine J_putI fl_RX8_167 rfl (Or.inl rfl) dX8_remember_102 ?_
    replace K := K _ rfl
    exact J_return rfl dX8_remember_105 K
  · replace K := K.2 c
    refine J_aload_n rfl dX8_remember_47 ?_
    refine J_getS (r := 6) fl_RX8_26 rfl (Or.inl rfl) rfl dX8_remember_48 ?_
    refine J_iload_n rfl dX8_remember_51 ?_
    refine J_aload_n rfl dX8_remember_52 ?_
    refine J_getS (r := 6) fl_RX8_26 rfl (Or.inl rfl) rfl dX8_remember_53 ?_
    refine J_iload_n rfl dX8_remember_56 ?_
    refine J_iconst (by decide) dX8_remember_57 ?_
    refine J_iadd K.1 dX8_remember_58 ?_
    replace K := K.2
    refine J_iaload (Or.inl rfl) K.1 dX8_remember_59 ?_
    replace K := K.2
    refine J_iastore (Or.inl rfl) K.1 dX8_remember_60 ?_
    replace K := K.2
    replace K := K _ rfl
    refine J_iinc (loc' := [some (vR (some 0)), some (vI y1), some (vI (y2 + 1))]) (by decide) rfl K.1 rfl dX8_remember_61 ?_
    replace K := K.2
    refine J_goto (tgt := 41) dX8_remember_64 (by decide) ?_
    exact J_forget (loc' := [some (vR (some 0)), some (vI y1), some (vI (y2 + 1))]) (And.intro (Or.inr rfl) (And.intro (Or.inr rfl) (And.intro (Or.inr rfl) True.intro))) K
set_option maxRecDepth 20000 in
set_option maxHeartbeats 2000000 in
theorem w_X8_remember {d b : Nat} {Q : Option AV → AH → Prop} {h : AH} {x1 : Int}  (K : (gi h 0 8 = 16 → Lp_X8_remember_11 d b Q x1 0 h) ∧ (¬(gi h 0 8 = 16) → WM GM d 0 mX8_keepAll [vR (some 0), vI (gi h 0 8)] h (fun r h1 => r = none ∧ (0 ≤ gi h1 0 8 ∧ gi h1 0 8 < 16) ∧ ∀ h2, h2 = si h1 6 (gi h1 0 8) x1 → R32 ((gi h1 0 8) + 1) ∧ ∀ h3, h3 = si h2 0 8 ((gi h1 0 8) + 1) → Q none h3))) : WM GM (d + 1) b mX8_remember [vR (some 0), vI x1] h Q := by
  refine WM_introE (loc' := [some (vR (some 0)), some (vI x1), none]) rfl (by decide) (Nat.le_of_ble_eq_true rfl) ?_
  refine J_aload_n rfl dX8_remember_0 ?_
  refine J_getI fl_RX8_167 rfl (Or.inl rfl) dX8_remember_1 ?_
  refine J_bipush (by decide) (by decide) dX8_remember_4 ?_
  refine J_icmp_ne (tgt := 77) dX8_remember_6 (by decide) (fun c => ?_) (fun c => ?_)
  · replace K := K.2 c
    refine J_aload_n rfl dX8_remember_77 ?_
    refine J_aload_n rfl dX8_remember_78 ?_
    refine J_getI fl_RX8_167 rfl (Or.inl rfl) dX8_remember_79 ?_
    refine J_b0 (J_callV (b1 := 0) (ci := 8) (vs := [vI (gi h 0 8)]) (rest := []) (Or.inl rfl) ml_RX8_174 rfl (by decide) rfl rfl (Or.inl rfl) (Nat.le_of_ble_eq_true rfl) rfl dX8_remember_82 (WM_mono K (fun r h1 K => ?_)))
    obtain ⟨rfl, K⟩ := K
    show J _ _ _ _ _ _ _ [] _
    refine J_aload_n rfl dX8_remember_85 ?_
    refine J_getS (r := 6) fl_RX8_26 rfl (Or.inl rfl) rfl dX8_remember_86 ?_
    refine J_aload_n rfl dX8_remember_89 ?_
    refine J_getI fl_RX8_167 rfl (Or.inl rfl) dX8_remember_90 ?_
    refine J_iload_n rfl dX8_remember_93 ?_
    refine J_iastore (Or.inl rfl) K.1 dX8_remember_94 ?_
    replace K := K.2
    replace K := K _ rfl
    refine J_aload_n rfl dX8_remember_95 ?_
    refine J_dup rfl dX8_remember_96 ?_
    refine J_getIe fl_RX8_167 rfl (Or.inl rfl) (gi_no (by decide)) dX8_remember_97 ?_
    refine J_iconst (by decide) dX8_remember_100 ?_
    refine J_iadd K.1 dX8_remember_101 ?_
    replace K := K.2
    refine J_putI fl_RX8_167 rfl (Or.inl rfl) dX8_remember_102 ?_
    replace K := K _ rfl
    exact J_return rfl dX8_remember_105 K
  · replace K := K.1 c
    refine J_iconst (by decide) dX8_remember_9 ?_
    refine J_istore_n (loc' := [some (vR (some 0)), some (vI x1), some (vI 0)]) (by decide) rfl dX8_remember_10 ?_
    exact J_forget (loc' := [some (vR (some 0)), some (vI x1), some (vI 0)]) (And.intro (Or.inr rfl) (And.intro (Or.inr rfl) (And.intro (Or.inr rfl) True.intro))) K
set_option maxRecDepth 20000 in
set_option maxHeartbeats 2000000 in
theorem w_X8_launchNow {d b : Nat} {Q : Option AV → AH → Prop} {h : AH} {x1 : Int}  (K : (0 ≤ gi h 2 1 ∧ gi h 2 1 ≤ 8) ∧ ((0 : Int) ≤ x1 ∧ x1 < gi h 2 1 → R32 (7 + x1) ∧ (0 ≤ 7 + x1 ∧ 7 + x1 < 5540) ∧ (gi h 2 (7 + x1) = (-1) → Q (some (vI (-3))) h) ∧ (¬(gi h 2 (7 + x1) = (-1)) → WM GM (d + 5) 0 mX8_isBarred [vR (some 0), vI x1] h (fun r h1 => ∃ u1, r = some (vI u1) ∧ (u1 = 0 → WM GM (d + 5) 0 mX8_remember [vR (some 0), vI 0] h1 (fun r h2 => r = none ∧ R32 (7 + x1) ∧ (0 ≤ 7 + x1 ∧ 7 + x1 < 5540) ∧ ∀ h3, h3 = si h2 2 (7 + x1) (-1) → R32 (15 + x1) ∧ (0 ≤ 15 + x1 ∧ 15 + x1 < 5540) ∧ ∀ h4, h4 = si h3 2 (15 + x1) 0 → Q (some (vI 0)) h4)) ∧ (¬(u1 = 0) → Q (some (vI (-3))) h1)))) ∧ (¬((0 : Int) ≤ x1 ∧ x1 < gi h 2 1) → Q (some (vI (-2))) h)) : WM GM (d + 6) b mX8_launchNow [vR (some 0), vI x1] h Q := by
  refine WM_introE (loc' := [some (vR (some 0)), some (vI x1)]) rfl (by decide) (Nat.le_of_ble_eq_true rfl) ?_
  refine J_aload_n rfl dX8_launchNow_0 ?_
  refine J_iload_n rfl dX8_launchNow_1 ?_
  refine J_b0 (J_callV (b1 := 0) (ci := 8) (vs := [vI x1]) (rest := []) (Or.inl rfl) ml_RX8_203 rfl (by decide) rfl rfl (Or.inl rfl) (Nat.le_of_ble_eq_true rfl) rfl dX8_launchNow_2 (c_X8_isDoor  K.1 ?_))
  replace K := K.2
  show J _ _ _ _ _ _ _ [vI (b2i ((0 : Int) ≤ x1 ∧ x1 < gi h 2 1))] _
  refine J_if_ne (tgt := 11) dX8_launchNow_5 (by decide) (fun c => ?_) (fun c => ?_)
  · replace K := K.1 (b2i_n0.mp c)
    refine J_aload_n rfl dX8_launchNow_11 ?_
    refine J_getS (r := 2) fl_RX8_13 rfl (Or.inl rfl) rfl dX8_launchNow_12 ?_
    refine J_bipush (by decide) (by decide) dX8_launchNow_15 ?_
    refine J_iload_n rfl dX8_launchNow_17 ?_
    refine J_iadd K.1 dX8_launchNow_18 ?_
    replace K := K.2
    refine J_iaload (Or.inl rfl) K.1 dX8_launchNow_19 ?_
    replace K := K.2
    refine J_iconst (by decide) dX8_launchNow_20 ?_
    refine J_icmp_eq (tgt := 32) dX8_launchNow_21 (by decide) (fun c => ?_) (fun c => ?_)
    · replace K := K.1 c
      refine J_bipush (by decide) (by decide) dX8_launchNow_32 ?_
      exact J_ireturn rfl dX8_launchNow_34 K
    · replace K := K.2 c
      refine J_aload_n rfl dX8_launchNow_24 ?_
      refine J_iload_n rfl dX8_launchNow_25 ?_
      refine J_b0 (J_callV (b1 := 0) (ci := 8) (vs := [vI x1]) (rest := []) (Or.inl rfl) ml_RX8_206 rfl (by decide) rfl rfl (Or.inl rfl) (Nat.le_of_ble_eq_true rfl) rfl dX8_launchNow_26 (WM_mono K (fun r h1 K => ?_)))
      obtain ⟨u1, rfl, K⟩ := K
      show J _ _ _ _ _ _ _ [vI u1] _
      refine J_if_eq (tgt := 35) dX8_launchNow_29 (by decide) (fun c => ?_) (fun c => ?_)
      · replace K := K.1 c
        refine J_aload_n rfl dX8_launchNow_35 ?_
        refine J_iconst (by decide) dX8_launchNow_36 ?_
        refine J_b0 (J_callV (b1 := 0) (ci := 8) (vs := [vI 0]) (rest := []) (Or.inl rfl) ml_RX8_435 rfl (by decide) rfl rfl (Or.inl rfl) (Nat.le_of_ble_eq_true rfl) rfl dX8_launchNow_37 (WM_mono K (fun r h2 K => ?_)))
        obtain ⟨rfl, K⟩ := K
        show J _ _ _ _ _ _ _ [] _
        refine J_aload_n rfl dX8_launchNow_40 ?_
        refine J_getS (r := 2) fl_RX8_13 rfl (Or.inl rfl) rfl dX8_launchNow_41 ?_
        refine J_bipush (by decide) (by decide) dX8_launchNow_44 ?_
        refine J_iload_n rfl dX8_launchNow_46 ?_
        refine J_iadd K.1 dX8_launchNow_47 ?_
        replace K := K.2
        refine J_iconst (by decide) dX8_launchNow_48 ?_
        refine J_iastore (Or.inl rfl) K.1 dX8_launchNow_49 ?_
        replace K := K.2
        replace K := K _ rfl
        refine J_aload_n rfl dX8_launchNow_50 ?_
        refine J_getS (r := 2) fl_RX8_13 rfl (Or.inl rfl) rfl dX8_launchNow_51 ?_
        refine J_bipush (by decide) (by decide) dX8_launchNow_54 ?_
        refine J_iload_n rfl dX8_launchNow_56 ?_
        refine J_iadd K.1 dX8_launchNow_57 ?_
        replace K := K.2
        refine J_iconst (by decide) dX8_launchNow_58 ?_
        refine J_iastore (Or.inl rfl) K.1 dX8_launchNow_59 ?_
        replace K := K.2
        replace K := K _ rfl
        refine J_iconst (by decide) dX8_launchNow_60 ?_
        exact J_ireturn rfl dX8_launchNow_61 K
      · replace K := K.2 c
        refine J_bipush (by decide) (by decide) dX8_launchNow_32 ?_
        exact J_ireturn rfl dX8_launchNow_34 K
  · replace K := K.2 (b2i_0.mp c)
    refine J_bipush (by decide) (by decide) dX8_launchNow_8 ?_
    exact J_ireturn rfl dX8_launchNow_10 K
set_option maxRecDepth 20000 in
set_option maxHeartbeats 2000000 in
theorem w_X8_sailNow {d b : Nat} {Q : Option AV → AH → Prop} {h : AH} {x1 : Int} {x2 : Int}  (K : (1 ≤ x2 ∧ x2 ≤ 4 → (0 ≤ gi h 2 1 ∧ gi h 2 1 ≤ 8) ∧ ((0 : Int) ≤ x1 ∧ x1 < gi h 2 1 → ((0 : Int) ≤ x1 ∧ (x1 : Int) < 8) ∧ (gi h 2 (15 + x1) ≠ -1 → R32 (15 + x1) ∧ (0 ≤ 15 + x1 ∧ 15 + x1 < 5540) ∧ ((0 : Int) ≤ (gi h 2 (15 + x1)) ∧ ((gi h 2 (15 + x1)) : Int) < 25) ∧ (zbes (gi h 2 (15 + x1)) x2 = (-1) → Q (some (vI (-3))) h) ∧ (¬(zbes (gi h 2 (15 + x1)) x2 = (-1)) → WM GM (d + 1) 0 mX8_remember [vR (some 0), vI 1] h (fun r h1 => r = none ∧ R32 (15 + x1) ∧ R32 (15 + x1) ∧ (0 ≤ 15 + x1 ∧ 15 + x1 < 5540) ∧ ((0 : Int) ≤ (gi h1 2 (15 + x1)) ∧ ((gi h1 2 (15 + x1)) : Int) < 25) ∧ (0 ≤ 15 + x1 ∧ 15 + x1 < 5540) ∧ ∀ h2, h2 = si h1 2 (15 + x1) (zbes (gi h1 2 (15 + x1)) x2) → R32 (15 + x1) ∧ (0 ≤ 15 + x1 ∧ 15 + x1 < 5540) ∧ Q (some (vI (zbes (gi h1 2 (15 + x1)) x2))) h2))) ∧ (¬(gi h 2 (15 + x1) ≠ -1) → Q (some (vI (-3))) h)) ∧ (¬((0 : Int) ≤ x1 ∧ x1 < gi h 2 1) → Q (some (vI (-2))) h)) ∧ (¬(1 ≤ x2 ∧ x2 ≤ 4) → Q (some (vI (-1))) h)) : WM GM (d + 2) b mX8_sailNow [vR (some 0), vI x1, vI x2] h Q := by
  refine WM_introE (loc' := [some (vR (some 0)), some (vI x1), some (vI x2)]) rfl (by decide) (Nat.le_of_ble_eq_true rfl) ?_
  refine J_iload_n rfl dX8_sailNow_0 ?_
  refine J_i2l dX8_sailNow_1 ?_
  refine J_lconst (x := 1) (by decide) (by decide) dX8_sailNow_2 ?_
  refine J_ldc2 (n := 4) (by decide) (by decide) kc_RX8_215 dX8_sailNow_3 ?_
  refine J_b0 (J_callS (b1 := 0) (vs := [vL x2, vL 1, vL 4]) (rest := []) (Or.inl rfl) ml_RX8_181 rfl (by decide) (Nat.le_of_ble_eq_true rfl) rfl dX8_sailNow_6 (c_X8_in   ?_))
  show J _ _ _ _ _ _ _ [vI (b2i (1 ≤ x2 ∧ x2 ≤ 4))] _
  refine J_if_ne (tgt := 14) dX8_sailNow_9 (by decide) (fun c => ?_) (fun c => ?_)
  · replace K := K.1 (b2i_n0.mp c)
    refine J_aload_n rfl dX8_sailNow_14 ?_
    refine J_iload_n rfl dX8_sailNow_15 ?_
    refine J_b0 (J_callV (b1 := 0) (ci := 8) (vs := [vI x1]) (rest := []) (Or.inl rfl) ml_RX8_203 rfl (by decide) rfl rfl (Or.inl rfl) (Nat.le_of_ble_eq_true rfl) rfl dX8_sailNow_16 (c_X8_isDoor  K.1 ?_))
    replace K := K.2
    show J _ _ _ _ _ _ _ [vI (b2i ((0 : Int) ≤ x1 ∧ x1 < gi h 2 1))] _
    refine J_if_ne (tgt := 25) dX8_sailNow_19 (by decide) (fun c => ?_) (fun c => ?_)
    · replace K := K.1 (b2i_n0.mp c)
      refine J_aload_n rfl dX8_sailNow_25 ?_
      refine J_iload_n rfl dX8_sailNow_26 ?_
      refine J_b0 (J_callV (b1 := 0) (ci := 8) (vs := [vI x1]) (rest := []) (Or.inl rfl) ml_RX8_441 rfl (by decide) rfl rfl (Or.inl rfl) (Nat.le_of_ble_eq_true rfl) rfl dX8_sailNow_27 (c_X8_isAtSea  K.1 ?_))
      replace K := K.2
      show J _ _ _ _ _ _ _ [vI (b2i (gi h 2 (15 + x1) ≠ -1))] _
      refine J_if_eq (tgt := 50) dX8_sailNow_30 (by decide) (fun c => ?_) (fun c => ?_)
      · replace K := K.2 (b2i_0.mp c)
        refine J_bipush (by decide) (by decide) dX8_sailNow_50 ?_
        exact J_ireturn rfl dX8_sailNow_52 K
      · replace K := K.1 (b2i_n0.mp c)
        refine J_aload_n rfl dX8_sailNow_33 ?_
        refine J_getS (r := 2) fl_RX8_13 rfl (Or.inl rfl) rfl dX8_sailNow_34 ?_
        refine J_bipush (by decide) (by decide) dX8_sailNow_37 ?_
        refine J_iload_n rfl dX8_sailNow_39 ?_
        refine J_iadd K.1 dX8_sailNow_40 ?_
        replace K := K.2
        refine J_iaload (Or.inl rfl) K.1 dX8_sailNow_41 ?_
        replace K := K.2
        refine J_iload_n rfl dX8_sailNow_42 ?_
        refine J_b0 (J_callS (b1 := 0) (vs := [vI (gi h 2 (15 + x1)), vI x2]) (rest := []) (Or.inl rfl) ml_RX8_444 rfl (by decide) (Nat.le_of_ble_eq_true rfl) rfl dX8_sailNow_43 (c_X8_cellBy  K.1 ?_))
        replace K := K.2
        show J _ _ _ _ _ _ _ [vI (zbes (gi h 2 (15 + x1)) x2)] _
        refine J_iconst (by decide) dX8_sailNow_46 ?_
        refine J_icmp_ne (tgt := 53) dX8_sailNow_47 (by decide) (fun c => ?_) (fun c => ?_)
        · replace K := K.2 c
          refine J_aload_n rfl dX8_sailNow_53 ?_
          refine J_iconst (by decide) dX8_sailNow_54 ?_
          refine J_b0 (J_callV (b1 := 0) (ci := 8) (vs := [vI 1]) (rest := []) (Or.inl rfl) ml_RX8_435 rfl (by decide) rfl rfl (Or.inl rfl) (Nat.le_of_ble_eq_true rfl) rfl dX8_sailNow_55 (WM_mono K (fun r h1 K => ?_)))
          obtain ⟨rfl, K⟩ := K
          show J _ _ _ _ _ _ _ [] _
          refine J_aload_n rfl dX8_sailNow_58 ?_
          refine J_getS (r := 2) fl_RX8_13 rfl (Or.inl rfl) rfl dX8_sailNow_59 ?_
          refine J_bipush (by decide) (by decide) dX8_sailNow_62 ?_
          refine J_iload_n rfl dX8_sailNow_64 ?_
          refine J_iadd K.1 dX8_sailNow_65 ?_
          replace K := K.2
          refine J_aload_n rfl dX8_sailNow_66 ?_
          refine J_getS (r := 2) fl_RX8_13 rfl (Or.inl rfl) rfl dX8_sailNow_67 ?_
          refine J_bipush (by decide) (by decide) dX8_sailNow_70 ?_
          refine J_iload_n rfl dX8_sailNow_72 ?_
          refine J_iadd K.1 dX8_sailNow_73 ?_
          replace K := K.2
          refine J_iaload (Or.inl rfl) K.1 dX8_sailNow_74 ?_
          replace K := K.2
          refine J_iload_n rfl dX8_sailNow_75 ?_
          refine J_b0 (J_callS (b1 := 0) (vs := [vI _, vI x2]) (rest := [vI (15 + x1), vR (some 2)]) (Or.inl rfl) ml_RX8_444 rfl (by decide) (Nat.le_of_ble_eq_true rfl) rfl dX8_sailNow_76 (c_X8_cellBy  K.1 ?_))
          replace K := K.2
          show J _ _ _ _ _ _ _ [vI _, vI (15 + x1), vR (some 2)] _
          refine J_iastore (Or.inl rfl) K.1 dX8_sailNow_79 ?_
          replace K := K.2
          replace K := K _ rfl
          refine J_aload_n rfl dX8_sailNow_80 ?_
          refine J_getS (r := 2) fl_RX8_13 rfl (Or.inl rfl) rfl dX8_sailNow_81 ?_
          refine J_bipush (by decide) (by decide) dX8_sailNow_84 ?_
          refine J_iload_n rfl dX8_sailNow_86 ?_
          refine J_iadd K.1 dX8_sailNow_87 ?_
          replace K := K.2
          refine J_ialoade (Or.inl rfl) K.1 gi_eq dX8_sailNow_88 ?_
          replace K := K.2
          exact J_ireturn rfl dX8_sailNow_89 K
        · replace K := K.1 c
          refine J_bipush (by decide) (by decide) dX8_sailNow_50 ?_
          exact J_ireturn rfl dX8_sailNow_52 K
    · replace K := K.2 (b2i_0.mp c)
      refine J_bipush (by decide) (by decide) dX8_sailNow_22 ?_
      exact J_ireturn rfl dX8_sailNow_24 K
  · replace K := K.2 (b2i_0.mp c)
    refine J_iconst (by decide) dX8_sailNow_12 ?_
    exact J_ireturn rfl dX8_sailNow_13 K
set_option maxRecDepth 20000 in
set_option maxHeartbeats 2000000 in
theorem w_X8_fishIt {d b : Nat} {Q : Option AV → AH → Prop} {h : AH} {x1 : Int}  (K : R32 (15 + x1) ∧ (0 ≤ 15 + x1 ∧ 15 + x1 < 5540) ∧ R32 (39 + (gi h 2 (15 + x1))) ∧ (0 ≤ 39 + (gi h 2 (15 + x1)) ∧ 39 + (gi h 2 (15 + x1)) < 5540) ∧ R32 (23 + x1) ∧ (0 ≤ 23 + x1 ∧ 23 + x1 < 5540) ∧ WM GM (d + 5) 0 mX8_catches [vR (some 0), vI x1, vI (gi h 2 (15 + x1)), vI (gi h 2 (39 + (gi h 2 (15 + x1)))), vI (gi h 2 (23 + x1))] h (fun r h1 => ∃ u1, r = some (vI u1) ∧ R32 (23 + x1) ∧ R32 (23 + x1) ∧ (0 ≤ 23 + x1 ∧ 23 + x1 < 5540) ∧ R32 ((gi h1 2 (23 + x1)) + u1) ∧ (R32 0 ∧ R32 999) ∧ (0 ≤ 23 + x1 ∧ 23 + x1 < 5540) ∧ ∀ h2, h2 = si h1 2 (23 + x1) (zwit ((gi h1 2 (23 + x1)) + u1) 0 999) → R32 (39 + (gi h 2 (15 + x1))) ∧ (0 ≤ 39 + (gi h 2 (15 + x1)) ∧ 39 + (gi h 2 (15 + x1)) < 5540) ∧ R32 ((gi h2 2 (39 + (gi h 2 (15 + x1)))) - u1) ∧ (0 ≤ 39 + (gi h 2 (15 + x1)) ∧ 39 + (gi h 2 (15 + x1)) < 5540) ∧ ∀ h3, h3 = si h2 2 (39 + (gi h 2 (15 + x1))) ((gi h2 2 (39 + (gi h 2 (15 + x1)))) - u1) → Q (some (vI u1)) h3)) : WM GM (d + 6) b mX8_fishIt [vR (some 0), vI x1] h Q := by
  refine WM_introE (loc' := [some (vR (some 0)), some (vI x1), none, none]) rfl (by decide) (Nat.le_of_ble_eq_true rfl) ?_
  refine J_aload_n rfl dX8_fishIt_0 ?_
  refine J_getS (r := 2) fl_RX8_13 rfl (Or.inl rfl) rfl dX8_fishIt_1 ?_
  refine J_bipush (by decide) (by decide) dX8_fishIt_4 ?_
  refine J_iload_n rfl dX8_fishIt_6 ?_
  refine J_iadd K.1 dX8_fishIt_7 ?_
  replace K := K.2
  refine J_iaload (Or.inl rfl) K.1 dX8_fishIt_8 ?_
  replace K := K.2
  refine J_istore_n (loc' := [some (vR (some 0)), some (vI x1), some (vI (gi h 2 (15 + x1))), none]) (by decide) rfl dX8_fishIt_9 ?_
  refine J_aload_n rfl dX8_fishIt_10 ?_
  refine J_iload_n rfl dX8_fishIt_11 ?_
  refine J_iload_n rfl dX8_fishIt_12 ?_
  refine J_aload_n rfl dX8_fishIt_13 ?_
  refine J_getS (r := 2) fl_RX8_13 rfl (Or.inl rfl) rfl dX8_fishIt_14 ?_
  refine J_bipush (by decide) (by decide) dX8_fishIt_17 ?_
  refine J_iload_n rfl dX8_fishIt_19 ?_
  refine J_iadd K.1 dX8_fishIt_20 ?_
  replace K := K.2
  refine J_iaload (Or.inl rfl) K.1 dX8_fishIt_21 ?_
  replace K := K.2
  refine J_aload_n rfl dX8_fishIt_22 ?_
  refine J_getS (r := 2) fl_RX8_13 rfl (Or.inl rfl) rfl dX8_fishIt_23 ?_
  refine J_bipush (by decide) (by decide) dX8_fishIt_26 ?_
  refine J_iload_n rfl dX8_fishIt_28 ?_
  refine J_iadd K.1 dX8_fishIt_29 ?_
  replace K := K.2
  refine J_iaload (Or.inl rfl) K.1 dX8_fishIt_30 ?_
  replace K := K.2
  refine J_b0 (J_callV (b1 := 0) (ci := 8) (vs := [vI x1, vI (gi h 2 (15 + x1)), vI (gi h 2 (39 + (gi h 2 (15 + x1)))), vI (gi h 2 (23 + x1))]) (rest := []) (Or.inl rfl) ml_RX8_229 rfl (by decide) rfl rfl (Or.inl rfl) (Nat.le_of_ble_eq_true rfl) rfl dX8_fishIt_31 (WM_mono K (fun r h1 K => ?_)))
  obtain ⟨u1, rfl, K⟩ := K
  show J _ _ _ _ _ _ _ [vI u1] _
  refine J_istore_n (loc' := [some (vR (some 0)), some (vI x1), some (vI (gi h 2 (15 + x1))), some (vI u1)]) (by decide) rfl dX8_fishIt_34 ?_
  refine J_aload_n rfl dX8_fishIt_35 ?_
  refine J_getS (r := 2) fl_RX8_13 rfl (Or.inl rfl) rfl dX8_fishIt_36 ?_
  refine J_bipush (by decide) (by decide) dX8_fishIt_39 ?_
  refine J_iload_n rfl dX8_fishIt_41 ?_
  refine J_iadd K.1 dX8_fishIt_42 ?_
  replace K := K.2
  refine J_aload_n rfl dX8_fishIt_43 ?_
  refine J_getS (r := 2) fl_RX8_13 rfl (Or.inl rfl) rfl dX8_fishIt_44 ?_
  refine J_bipush (by decide) (by decide) dX8_fishIt_47 ?_
  refine J_iload_n rfl dX8_fishIt_49 ?_
  refine J_iadd K.1 dX8_fishIt_50 ?_
  replace K := K.2
  refine J_iaload (Or.inl rfl) K.1 dX8_fishIt_51 ?_
  replace K := K.2
  refine J_iload_n rfl dX8_fishIt_52 ?_
  refine J_iadd K.1 dX8_fishIt_53 ?_
  replace K := K.2
  refine J_i2l dX8_fishIt_54 ?_
  refine J_iconst (by decide) dX8_fishIt_55 ?_
  refine J_sipush (by decide) (by decide) dX8_fishIt_56 ?_
  refine J_b0 (J_callS (b1 := 0) (vs := [vL _, vI 0, vI 999]) (rest := [vI (23 + x1), vR (some 2)]) (Or.inl rfl) ml_RX8_428 rfl (by decide) (Nat.le_of_ble_eq_true rfl) rfl dX8_fishIt_59 (c_X8_within  K.1 ?_))
  replace K := K.2
  show J _ _ _ _ _ _ _ [vI _, vI (23 + x1), vR (some 2)] _
  refine J_iastore (Or.inl rfl) K.1 dX8_fishIt_62 ?_
  replace K := K.2
  replace K := K _ rfl
  refine J_aload_n rfl dX8_fishIt_63 ?_
  refine J_getS (r := 2) fl_RX8_13 rfl (Or.inl rfl) rfl dX8_fishIt_64 ?_
  refine J_bipush (by decide) (by decide) dX8_fishIt_67 ?_
  refine J_iload_n rfl dX8_fishIt_69 ?_
  refine J_iadd K.1 dX8_fishIt_70 ?_
  replace K := K.2
  refine J_dup2 rfl rfl dX8_fishIt_71 ?_
  refine J_iaload (Or.inl rfl) K.1 dX8_fishIt_72 ?_
  replace K := K.2
  refine J_iload_n rfl dX8_fishIt_73 ?_
  refine J_isub K.1 dX8_fishIt_74 ?_
  replace K := K.2
  refine J_iastore (Or.inl rfl) K.1 dX8_fishIt_75 ?_
  replace K := K.2
  replace K := K _ rfl
  refine J_iload_n rfl dX8_fishIt_76 ?_
  exact J_ireturn rfl dX8_fishIt_77 K
set_option maxRecDepth 20000 in
set_option maxHeartbeats 2000000 in
theorem w_X8_fishNow {d b : Nat} {Q : Option AV → AH → Prop} {h : AH} {x1 : Int}  (K : (0 ≤ gi h 2 1 ∧ gi h 2 1 ≤ 8) ∧ ((0 : Int) ≤ x1 ∧ x1 < gi h 2 1 → ((0 : Int) ≤ x1 ∧ (x1 : Int) < 8) ∧ (gi h 2 (15 + x1) ≠ -1 → WM GM (d + 6) 0 mX8_remember [vR (some 0), vI 2] h (fun r h1 => r = none ∧ WM GM (d + 6) 0 mX8_fishIt [vR (some 0), vI x1] h1 (fun r h2 => ∃ u2, r = some (vI u2) ∧ Q (some (vI u2)) h2))) ∧ (¬(gi h 2 (15 + x1) ≠ -1) → Q (some (vI (-3))) h)) ∧ (¬((0 : Int) ≤ x1 ∧ x1 < gi h 2 1) → Q (some (vI (-2))) h)) : WM GM (d + 7) b mX8_fishNow [vR (some 0), vI x1] h Q := by
  refine WM_introE (loc' := [some (vR (some 0)), some (vI x1)]) rfl (by decide) (Nat.le_of_ble_eq_true rfl) ?_
  refine J_aload_n rfl dX8_fishNow_0 ?_
  refine J_iload_n rfl dX8_fishNow_1 ?_
  refine J_b0 (J_callV (b1 := 0) (ci := 8) (vs := [vI x1]) (rest := []) (Or.inl rfl) ml_RX8_203 rfl (by decide) rfl rfl (Or.inl rfl) (Nat.le_of_ble_eq_true rfl) rfl dX8_fishNow_2 (c_X8_isDoor  K.1 ?_))
  replace K := K.2
  show J _ _ _ _ _ _ _ [vI (b2i ((0 : Int) ≤ x1 ∧ x1 < gi h 2 1))] _
  refine J_if_ne (tgt := 11) dX8_fishNow_5 (by decide) (fun c => ?_) (fun c => ?_)
  · replace K := K.1 (b2i_n0.mp c)
    refine J_aload_n rfl dX8_fishNow_11 ?_
    refine J_iload_n rfl dX8_fishNow_12 ?_
    refine J_b0 (J_callV (b1 := 0) (ci := 8) (vs := [vI x1]) (rest := []) (Or.inl rfl) ml_RX8_441 rfl (by decide) rfl rfl (Or.inl rfl) (Nat.le_of_ble_eq_true rfl) rfl dX8_fishNow_13 (c_X8_isAtSea  K.1 ?_))
    replace K := K.2
    show J _ _ _ _ _ _ _ [vI (b2i (gi h 2 (15 + x1) ≠ -1))] _
    refine J_if_ne (tgt := 22) dX8_fishNow_16 (by decide) (fun c => ?_) (fun c => ?_)
    · replace K := K.1 (b2i_n0.mp c)
      refine J_aload_n rfl dX8_fishNow_22 ?_
      refine J_iconst (by decide) dX8_fishNow_23 ?_
      refine J_b0 (J_callV (b1 := 0) (ci := 8) (vs := [vI 2]) (rest := []) (Or.inl rfl) ml_RX8_435 rfl (by decide) rfl rfl (Or.inl rfl) (Nat.le_of_ble_eq_true rfl) rfl dX8_fishNow_24 (WM_mono K (fun r h1 K => ?_)))
      obtain ⟨rfl, K⟩ := K
      show J _ _ _ _ _ _ _ [] _
      refine J_aload_n rfl dX8_fishNow_27 ?_
      refine J_iload_n rfl dX8_fishNow_28 ?_
      refine J_b0 (J_callV (b1 := 0) (ci := 8) (vs := [vI x1]) (rest := []) (Or.inl rfl) ml_RX8_450 rfl (by decide) rfl rfl (Or.inl rfl) (Nat.le_of_ble_eq_true rfl) rfl dX8_fishNow_29 (WM_mono K (fun r h2 K => ?_)))
      obtain ⟨u2, rfl, K⟩ := K
      show J _ _ _ _ _ _ _ [vI u2] _
      exact J_ireturn rfl dX8_fishNow_32 K
    · replace K := K.2 (b2i_0.mp c)
      refine J_bipush (by decide) (by decide) dX8_fishNow_19 ?_
      exact J_ireturn rfl dX8_fishNow_21 K
  · replace K := K.2 (b2i_0.mp c)
    refine J_bipush (by decide) (by decide) dX8_fishNow_8 ?_
    exact J_ireturn rfl dX8_fishNow_10 K
set_option maxRecDepth 20000 in
set_option maxHeartbeats 2000000 in
theorem w_X8_hangNow {d b : Nat} {Q : Option AV → AH → Prop} {h : AH} {x1 : Int} {x2 : Int}  (K : (0 ≤ gi h 2 1 ∧ gi h 2 1 ≤ 8) ∧ ((0 : Int) ≤ x1 ∧ x1 < gi h 2 1 → (0 ≤ gi h 2 0 ∧ gi h 2 0 ≤ 8) ∧ ((0 : Int) ≤ x2 ∧ x2 < gi h 2 0 → R32 (15 + x1) ∧ (0 ≤ 15 + x1 ∧ 15 + x1 < 5540) ∧ (gi h 2 (15 + x1) = 0 → (InvR (gi h 2)) ∧ ((0 : Int) ≤ x2) ∧ (dOf (gi h 2) x2 = (-1) → WM GM (d + 5) 0 mX8_fits [vR (some 0), vI x1, vI x2] h (fun r h1 => ∃ u1, r = some (vI u1) ∧ (u1 = 0 → Q (some (vI (-3))) h1) ∧ (¬(u1 = 0) → WM GM (d + 5) 0 mX8_remember [vR (some 0), vI 3] h1 (fun r h2 => r = none ∧ R32 (23 + x1) ∧ (0 ≤ 23 + x1 ∧ 23 + x1 < 5540) ∧ R32 (15 + x1) ∧ (0 ≤ 15 + x1 ∧ 15 + x1 < 5540) ∧ ∀ h3, h3 = si h2 2 (15 + x1) (-1) → R32 (7 + x1) ∧ (0 ≤ 7 + x1 ∧ 7 + x1 < 5540) ∧ ∀ h4, h4 = si h3 2 (7 + x1) x2 → R32 (23 + x1) ∧ (0 ≤ 23 + x1 ∧ 23 + x1 < 5540) ∧ ∀ h5, h5 = si h4 2 (23 + x1) 0 → Q (some (vI (gi h2 2 (23 + x1)))) h5)))) ∧ (¬(dOf (gi h 2) x2 = (-1)) → Q (some (vI (-3))) h)) ∧ (¬(gi h 2 (15 + x1) = 0) → Q (some (vI (-3))) h)) ∧ (¬((0 : Int) ≤ x2 ∧ x2 < gi h 2 0) → Q (some (vI (-2))) h)) ∧ (¬((0 : Int) ≤ x1 ∧ x1 < gi h 2 1) → Q (some (vI (-2))) h)) : WM GM (d + 6) b mX8_hangNow [vR (some 0), vI x1, vI x2] h Q := by
  refine WM_introE (loc' := [some (vR (some 0)), some (vI x1), some (vI x2), none]) rfl (by decide) (Nat.le_of_ble_eq_true rfl) ?_
  refine J_aload_n rfl dX8_hangNow_0 ?_
  refine J_iload_n rfl dX8_hangNow_1 ?_
  refine J_b0 (J_callV (b1 := 0) (ci := 8) (vs := [vI x1]) (rest := []) (Or.inl rfl) ml_RX8_203 rfl (by decide) rfl rfl (Or.inl rfl) (Nat.le_of_ble_eq_true rfl) rfl dX8_hangNow_2 (c_X8_isDoor  K.1 ?_))
  replace K := K.2
  show J _ _ _ _ _ _ _ [vI (b2i ((0 : Int) ≤ x1 ∧ x1 < gi h 2 1))] _
  refine J_if_eq (tgt := 16) dX8_hangNow_5 (by decide) (fun c => ?_) (fun c => ?_)
  · replace K := K.2 (b2i_0.mp c)
    refine J_bipush (by decide) (by decide) dX8_hangNow_16 ?_
    exact J_ireturn rfl dX8_hangNow_18 K
  · replace K := K.1 (b2i_n0.mp c)
    refine J_aload_n rfl dX8_hangNow_8 ?_
    refine J_iload_n rfl dX8_hangNow_9 ?_
    refine J_b0 (J_callV (b1 := 0) (ci := 8) (vs := [vI x2]) (rest := []) (Or.inl rfl) ml_RX8_196 rfl (by decide) rfl rfl (Or.inl rfl) (Nat.le_of_ble_eq_true rfl) rfl dX8_hangNow_10 (c_X8_isHouse  K.1 ?_))
    replace K := K.2
    show J _ _ _ _ _ _ _ [vI (b2i ((0 : Int) ≤ x2 ∧ x2 < gi h 2 0))] _
    refine J_if_ne (tgt := 19) dX8_hangNow_13 (by decide) (fun c => ?_) (fun c => ?_)
    · replace K := K.1 (b2i_n0.mp c)
      refine J_aload_n rfl dX8_hangNow_19 ?_
      refine J_getS (r := 2) fl_RX8_13 rfl (Or.inl rfl) rfl dX8_hangNow_20 ?_
      refine J_bipush (by decide) (by decide) dX8_hangNow_23 ?_
      refine J_iload_n rfl dX8_hangNow_25 ?_
      refine J_iadd K.1 dX8_hangNow_26 ?_
      replace K := K.2
      refine J_iaload (Or.inl rfl) K.1 dX8_hangNow_27 ?_
      replace K := K.2
      refine J_if_ne (tgt := 49) dX8_hangNow_28 (by decide) (fun c => ?_) (fun c => ?_)
      · replace K := K.2 c
        refine J_bipush (by decide) (by decide) dX8_hangNow_49 ?_
        exact J_ireturn rfl dX8_hangNow_51 K
      · replace K := K.1 c
        refine J_aload_n rfl dX8_hangNow_31 ?_
        refine J_iload_n rfl dX8_hangNow_32 ?_
        refine J_b0 (J_callV (b1 := 0) (ci := 8) (vs := [vI x2]) (rest := []) (Or.inl rfl) ml_RX8_200 rfl (by decide) rfl rfl (Or.inl rfl) (Nat.le_of_ble_eq_true rfl) rfl dX8_hangNow_33 (c_X8_doorOf  K.1 K.2.1 ?_))
        replace K := K.2.2
        show J _ _ _ _ _ _ _ [vI (dOf (gi h 2) x2)] _
        refine J_iconst (by decide) dX8_hangNow_36 ?_
        refine J_icmp_ne (tgt := 49) dX8_hangNow_37 (by decide) (fun c => ?_) (fun c => ?_)
        · replace K := K.2 c
          refine J_bipush (by decide) (by decide) dX8_hangNow_49 ?_
          exact J_ireturn rfl dX8_hangNow_51 K
        · replace K := K.1 c
          refine J_aload_n rfl dX8_hangNow_40 ?_
          refine J_iload_n rfl dX8_hangNow_41 ?_
          refine J_iload_n rfl dX8_hangNow_42 ?_
          refine J_b0 (J_callV (b1 := 0) (ci := 8) (vs := [vI x1, vI x2]) (rest := []) (Or.inl rfl) ml_RX8_209 rfl (by decide) rfl rfl (Or.inl rfl) (Nat.le_of_ble_eq_true rfl) rfl dX8_hangNow_43 (WM_mono K (fun r h1 K => ?_)))
          obtain ⟨u1, rfl, K⟩ := K
          show J _ _ _ _ _ _ _ [vI u1] _
          refine J_if_ne (tgt := 52) dX8_hangNow_46 (by decide) (fun c => ?_) (fun c => ?_)
          · replace K := K.2 c
            refine J_aload_n rfl dX8_hangNow_52 ?_
            refine J_iconst (by decide) dX8_hangNow_53 ?_
            refine J_b0 (J_callV (b1 := 0) (ci := 8) (vs := [vI 3]) (rest := []) (Or.inl rfl) ml_RX8_435 rfl (by decide) rfl rfl (Or.inl rfl) (Nat.le_of_ble_eq_true rfl) rfl dX8_hangNow_54 (WM_mono K (fun r h2 K => ?_)))
            obtain ⟨rfl, K⟩ := K
            show J _ _ _ _ _ _ _ [] _
            refine J_aload_n rfl dX8_hangNow_57 ?_
            refine J_getS (r := 2) fl_RX8_13 rfl (Or.inl rfl) rfl dX8_hangNow_58 ?_
            refine J_bipush (by decide) (by decide) dX8_hangNow_61 ?_
            refine J_iload_n rfl dX8_hangNow_63 ?_
            refine J_iadd K.1 dX8_hangNow_64 ?_
            replace K := K.2
            refine J_iaload (Or.inl rfl) K.1 dX8_hangNow_65 ?_
            replace K := K.2
            refine J_istore_n (loc' := [some (vR (some 0)), some (vI x1), some (vI x2), some (vI _)]) (by decide) rfl dX8_hangNow_66 ?_
            refine J_aload_n rfl dX8_hangNow_67 ?_
            refine J_getS (r := 2) fl_RX8_13 rfl (Or.inl rfl) rfl dX8_hangNow_68 ?_
            refine J_bipush (by decide) (by decide) dX8_hangNow_71 ?_
            refine J_iload_n rfl dX8_hangNow_73 ?_
            refine J_iadd K.1 dX8_hangNow_74 ?_
            replace K := K.2
            refine J_iconst (by decide) dX8_hangNow_75 ?_
            refine J_iastore (Or.inl rfl) K.1 dX8_hangNow_76 ?_
            replace K := K.2
            replace K := K _ rfl
            refine J_aload_n rfl dX8_hangNow_77 ?_
            refine J_getS (r := 2) fl_RX8_13 rfl (Or.inl rfl) rfl dX8_hangNow_78 ?_
            refine J_bipush (by decide) (by decide) dX8_hangNow_81 ?_
            refine J_iload_n rfl dX8_hangNow_83 ?_
            refine J_iadd K.1 dX8_hangNow_84 ?_
            replace K := K.2
            refine J_iload_n rfl dX8_hangNow_85 ?_
            refine J_iastore (Or.inl rfl) K.1 dX8_hangNow_86 ?_
            replace K := K.2
            replace K := K _ rfl
            refine J_aload_n rfl dX8_hangNow_87 ?_
            refine J_getS (r := 2) fl_RX8_13 rfl (Or.inl rfl) rfl dX8_hangNow_88 ?_
            refine J_bipush (by decide) (by decide) dX8_hangNow_91 ?_
            refine J_iload_n rfl dX8_hangNow_93 ?_
            refine J_iadd K.1 dX8_hangNow_94 ?_
            replace K := K.2
            refine J_iconst (by decide) dX8_hangNow_95 ?_
            refine J_iastore (Or.inl rfl) K.1 dX8_hangNow_96 ?_
            replace K := K.2
            replace K := K _ rfl
            refine J_iload_n rfl dX8_hangNow_97 ?_
            exact J_ireturn rfl dX8_hangNow_98 K
          · replace K := K.1 c
            refine J_bipush (by decide) (by decide) dX8_hangNow_49 ?_
            exact J_ireturn rfl dX8_hangNow_51 K
    · replace K := K.2 (b2i_0.mp c)
      refine J_bipush (by decide) (by decide) dX8_hangNow_16 ?_
      exact J_ireturn rfl dX8_hangNow_18 K
def Lp_X8_tideIt_4 (d b : Nat) (Q : Option AV → AH → Prop)  (y1 : Int) (y2 : Int) (h : AH) : Prop := J GM (d + 1) b mX8_tideIt Q 4 [some (vR (some 0)), some (vI y1), some (vI y2), none] [] h
def Lp_X8_tideIt_83 (d b : Nat) (Q : Option AV → AH → Prop)  (y1 : Int) (y2 : Int) (h : AH) : Prop := J GM (d + 1) b mX8_tideIt Q 83 [some (vR (some 0)), some (vI y1), some (vI y2), none] [] h
set_option maxRecDepth 20000 in
set_option maxHeartbeats 2000000 in
theorem l_X8_tideIt_4 {d b : Nat} {Q : Option AV → AH → Prop} {h : AH}  {y1 : Int} {y2 : Int}  (K : (gi h 2 1 ≤ y2 → Lp_X8_tideIt_83 d b Q y1 0 h) ∧ (¬(gi h 2 1 ≤ y2) → ((0 : Int) ≤ y2 ∧ (y2 : Int) < 8) ∧ (gi h 2 (15 + y2) ≠ -1 → R32 (15 + y2) ∧ (0 ≤ 15 + y2 ∧ 15 + y2 < 5540) ∧ R32 (15 + y2) ∧ (0 ≤ 15 + y2 ∧ 15 + y2 < 5540) ∧ R32 (104 + (gi h 2 (15 + y2))) ∧ (0 ≤ 104 + (gi h 2 (15 + y2)) ∧ 104 + (gi h 2 (15 + y2)) < 5540) ∧ ((0 : Int) ≤ (gi h 2 (15 + y2)) ∧ ((gi h 2 (15 + y2)) : Int) < 25) ∧ R32 (15 + y2) ∧ (0 ≤ 15 + y2 ∧ 15 + y2 < 5540) ∧ ∀ h1, h1 = si h 2 (15 + y2) (zbes (gi h 2 (15 + y2)) (gi h 2 (104 + (gi h 2 (15 + y2))))) → (zbes (gi h 2 (15 + y2)) (gi h 2 (104 + (gi h 2 (15 + y2)))) = (-1) → ((0 : Int) ≤ y2 ∧ (y2 : Int) < 8) ∧ ∀ h2, h2 = si (si h1 2 (15 + y2) (-1)) 2 (31 + y2) 1 → R32 (y1 + 1) ∧ R32 (y2 + 1) ∧ Lp_X8_tideIt_4 d b Q (y1 + 1) (y2 + 1) h2) ∧ (¬(zbes (gi h 2 (15 + y2)) (gi h 2 (104 + (gi h 2 (15 + y2)))) = (-1)) → R32 (y2 + 1) ∧ Lp_X8_tideIt_4 d b Q y1 (y2 + 1) h1)) ∧ (¬(gi h 2 (15 + y2) ≠ -1) → R32 (y2 + 1) ∧ Lp_X8_tideIt_4 d b Q y1 (y2 + 1) h))) : Lp_X8_tideIt_4 d b Q y1 y2 h := by
  unfold Lp_X8_tideIt_4
  refine J_iload_n rfl dX8_tideIt_4 ?_
  refine J_aload_n rfl dX8_tideIt_5 ?_
  refine J_getS (r := 2) fl_RX8_13 rfl (Or.inl rfl) rfl dX8_tideIt_6 ?_
  refine J_iconst (by decide) dX8_tideIt_9 ?_
  refine J_iaload (Or.inl rfl) (by decide) dX8_tideIt_10 ?_
  refine J_icmp_ge (tgt := 81) dX8_tideIt_11 (by decide) (fun c => ?_) (fun c => ?_)
  · replace K := K.1 c
    refine J_iconst (by decide) dX8_tideIt_81 ?_
    refine J_istore_n (loc' := [some (vR (some 0)), some (vI y1), some (vI 0), none]) (by decide) rfl dX8_tideIt_82 ?_
    exact J_forget (loc' := [some (vR (some 0)), some (vI y1), some (vI 0), none]) (And.intro (Or.inr rfl) (And.intro (Or.inr rfl) (And.intro (Or.inr rfl) (And.intro (Or.inl rfl) True.intro)))) K
  · replace K := K.2 c
    refine J_aload_n rfl dX8_tideIt_14 ?_
    refine J_iload_n rfl dX8_tideIt_15 ?_
    refine J_b0 (J_callV (b1 := 0) (ci := 8) (vs := [vI y2]) (rest := []) (Or.inl rfl) ml_RX8_441 rfl (by decide) rfl rfl (Or.inl rfl) (Nat.le_of_ble_eq_true rfl) rfl dX8_tideIt_16 (c_X8_isAtSea  K.1 ?_))
    replace K := K.2
    show J _ _ _ _ _ _ _ [vI (b2i (gi h 2 (15 + y2) ≠ -1))] _
    refine J_if_eq (tgt := 75) dX8_tideIt_19 (by decide) (fun c => ?_) (fun c => ?_)
    · replace K := K.2 (b2i_0.mp c)
      refine J_iinc (loc' := [some (vR (some 0)), some (vI y1), some (vI (y2 + 1)), none]) (by decide) rfl K.1 rfl dX8_tideIt_75 ?_
      replace K := K.2
      refine J_goto (tgt := 4) dX8_tideIt_78 (by decide) ?_
      exact J_forget (loc' := [some (vR (some 0)), some (vI y1), some (vI (y2 + 1)), none]) (And.intro (Or.inr rfl) (And.intro (Or.inr rfl) (And.intro (Or.inr rfl) (And.intro (Or.inl rfl) True.intro)))) K
    · replace K := K.1 (b2i_n0.mp c)
      refine J_aload_n rfl dX8_tideIt_22 ?_
      refine J_getS (r := 2) fl_RX8_13 rfl (Or.inl rfl) rfl dX8_tideIt_23 ?_
      refine J_bipush (by decide) (by decide) dX8_tideIt_26 ?_
      refine J_iload_n rfl dX8_tideIt_28 ?_
      refine J_iadd K.1 dX8_tideIt_29 ?_
      replace K := K.2
      refine J_iaload (Or.inl rfl) K.1 dX8_tideIt_30 ?_
      replace K := K.2
      refine J_aload_n rfl dX8_tideIt_31 ?_
      refine J_getS (r := 2) fl_RX8_13 rfl (Or.inl rfl) rfl dX8_tideIt_32 ?_
      refine J_bipush (by decide) (by decide) dX8_tideIt_35 ?_
      refine J_aload_n rfl dX8_tideIt_37 ?_
      refine J_getS (r := 2) fl_RX8_13 rfl (Or.inl rfl) rfl dX8_tideIt_38 ?_
      refine J_bipush (by decide) (by decide) dX8_tideIt_41 ?_
      refine J_iload_n rfl dX8_tideIt_43 ?_
      refine J_iadd K.1 dX8_tideIt_44 ?_
      replace K := K.2
      refine J_iaload (Or.inl rfl) K.1 dX8_tideIt_45 ?_
      replace K := K.2
      refine J_iadd K.1 dX8_tideIt_46 ?_
      replace K := K.2
      refine J_iaload (Or.inl rfl) K.1 dX8_tideIt_47 ?_
      replace K := K.2
      refine J_b0 (J_callS (b1 := 0) (vs := [vI (gi h 2 (15 + y2)), vI (gi h 2 (104 + (gi h 2 (15 + y2))))]) (rest := []) (Or.inl rfl) ml_RX8_444 rfl (by decide) (Nat.le_of_ble_eq_true rfl) rfl dX8_tideIt_48 (c_X8_cellBy  K.1 ?_))
      replace K := K.2
      show J _ _ _ _ _ _ _ [vI (zbes (gi h 2 (15 + y2)) (gi h 2 (104 + (gi h 2 (15 + y2)))))] _
      refine J_istore_n (loc' := [some (vR (some 0)), some (vI y1), some (vI y2), some (vI (zbes (gi h 2 (15 + y2)) (gi h 2 (104 + (gi h 2 (15 + y2))))))]) (by decide) rfl dX8_tideIt_51 ?_
      refine J_aload_n rfl dX8_tideIt_52 ?_
      refine J_getS (r := 2) fl_RX8_13 rfl (Or.inl rfl) rfl dX8_tideIt_53 ?_
      refine J_bipush (by decide) (by decide) dX8_tideIt_56 ?_
      refine J_iload_n rfl dX8_tideIt_58 ?_
      refine J_iadd K.1 dX8_tideIt_59 ?_
      replace K := K.2
      refine J_iload_n rfl dX8_tideIt_60 ?_
      refine J_iastore (Or.inl rfl) K.1 dX8_tideIt_61 ?_
      replace K := K.2
      replace K := K _ rfl
      refine J_iload_n rfl dX8_tideIt_62 ?_
      refine J_iconst (by decide) dX8_tideIt_63 ?_
      refine J_icmp_ne (tgt := 75) dX8_tideIt_64 (by decide) (fun c => ?_) (fun c => ?_)
      · replace K := K.2 c
        refine J_iinc (loc' := [some (vR (some 0)), some (vI y1), some (vI (y2 + 1)), some (vI (zbes (gi h 2 (15 + y2)) (gi h 2 (104 + (gi h 2 (15 + y2))))))]) (by decide) rfl K.1 rfl dX8_tideIt_75 ?_
        replace K := K.2
        refine J_goto (tgt := 4) dX8_tideIt_78 (by decide) ?_
        exact J_forget (loc' := [some (vR (some 0)), some (vI y1), some (vI (y2 + 1)), none]) (And.intro (Or.inr rfl) (And.intro (Or.inr rfl) (And.intro (Or.inr rfl) (And.intro (Or.inl rfl) True.intro)))) K
      · replace K := K.1 c
        refine J_aload_n rfl dX8_tideIt_67 ?_
        refine J_iload_n rfl dX8_tideIt_68 ?_
        refine J_b0 (J_callV (b1 := 0) (ci := 8) (vs := [vI y2]) (rest := []) (Or.inl rfl) ml_RX8_459 rfl (by decide) rfl rfl (Or.inl rfl) (Nat.le_of_ble_eq_true rfl) rfl dX8_tideIt_69 (c_X8_lose  K.1 ?_))
        replace K := K.2
        replace K := K _ rfl
        show J _ _ _ _ _ _ _ [] _
        refine J_iinc (loc' := [some (vR (some 0)), some (vI (y1 + 1)), some (vI y2), some (vI (zbes (gi h 2 (15 + y2)) (gi h 2 (104 + (gi h 2 (15 + y2))))))]) (by decide) rfl K.1 rfl dX8_tideIt_72 ?_
        replace K := K.2
        refine J_iinc (loc' := [some (vR (some 0)), some (vI (y1 + 1)), some (vI (y2 + 1)), some (vI (zbes (gi h 2 (15 + y2)) (gi h 2 (104 + (gi h 2 (15 + y2))))))]) (by decide) rfl K.1 rfl dX8_tideIt_75 ?_
        replace K := K.2
        refine J_goto (tgt := 4) dX8_tideIt_78 (by decide) ?_
        exact J_forget (loc' := [some (vR (some 0)), some (vI (y1 + 1)), some (vI (y2 + 1)), none]) (And.intro (Or.inr rfl) (And.intro (Or.inr rfl) (And.intro (Or.inr rfl) (And.intro (Or.inl rfl) True.intro)))) K
set_option maxRecDepth 20000 in
set_option maxHeartbeats 2000000 in
theorem l_X8_tideIt_83 {d b : Nat} {Q : Option AV → AH → Prop} {h : AH}  {y1 : Int} {y2 : Int}  (K : (25 ≤ y2 → R32 ((gi h 2 5) + 1) ∧ ∀ h1, h1 = si h 2 5 ((gi h 2 5) + 1) → Q (some (vI y1)) h1) ∧ (¬(25 ≤ y2) → R32 (39 + y2) ∧ R32 (39 + y2) ∧ (0 ≤ 39 + y2 ∧ 39 + y2 < 5540) ∧ R64 ((gi h 2 (39 + y2)) + 1) ∧ (R32 0 ∧ R32 99) ∧ (0 ≤ 39 + y2 ∧ 39 + y2 < 5540) ∧ ∀ h2, h2 = si h 2 (39 + y2) (zwit ((gi h 2 (39 + y2)) + 1) 0 99) → R32 (y2 + 1) ∧ Lp_X8_tideIt_83 d b Q y1 (y2 + 1) h2)) : Lp_X8_tideIt_83 d b Q y1 y2 h := by
  unfold Lp_X8_tideIt_83
  refine J_iload_n rfl dX8_tideIt_83 ?_
  refine J_bipush (by decide) (by decide) dX8_tideIt_84 ?_
  refine J_icmp_ge (tgt := 122) dX8_tideIt_86 (by decide) (fun c => ?_) (fun c => ?_)
  · replace K := K.1 c
    refine J_aload_n rfl dX8_tideIt_122 ?_
    refine J_getS (r := 2) fl_RX8_13 rfl (Or.inl rfl) rfl dX8_tideIt_123 ?_
    refine J_iconst (by decide) dX8_tideIt_126 ?_
    refine J_dup2 rfl rfl dX8_tideIt_127 ?_
    refine J_iaload (Or.inl rfl) (by decide) dX8_tideIt_128 ?_
    refine J_iconst (by decide) dX8_tideIt_129 ?_
    refine J_iadd K.1 dX8_tideIt_130 ?_
    replace K := K.2
    refine J_iastore (Or.inl rfl) (by decide) dX8_tideIt_131 ?_
    replace K := K _ rfl
    refine J_iload_n rfl dX8_tideIt_132 ?_
    exact J_ireturn rfl dX8_tideIt_133 K
  · replace K := K.2 c
    refine J_aload_n rfl dX8_tideIt_89 ?_
    refine J_getS (r := 2) fl_RX8_13 rfl (Or.inl rfl) rfl dX8_tideIt_90 ?_
    refine J_bipush (by decide) (by decide) dX8_tideIt_93 ?_
    refine J_iload_n rfl dX8_tideIt_95 ?_
    refine J_iadd K.1 dX8_tideIt_96 ?_
    replace K := K.2
    refine J_aload_n rfl dX8_tideIt_97 ?_
    refine J_getS (r := 2) fl_RX8_13 rfl (Or.inl rfl) rfl dX8_tideIt_98 ?_
    refine J_bipush (by decide) (by decide) dX8_tideIt_101 ?_
    refine J_iload_n rfl dX8_tideIt_103 ?_
    refine J_iadd K.1 dX8_tideIt_104 ?_
    replace K := K.2
    refine J_iaload (Or.inl rfl) K.1 dX8_tideIt_105 ?_
    replace K := K.2
    refine J_i2l dX8_tideIt_106 ?_
    refine J_lconst (x := 1) (by decide) (by decide) dX8_tideIt_107 ?_
    refine J_ladd K.1 dX8_tideIt_108 ?_
    replace K := K.2
    refine J_iconst (by decide) dX8_tideIt_109 ?_
    refine J_bipush (by decide) (by decide) dX8_tideIt_110 ?_
    refine J_b0 (J_callS (b1 := 0) (vs := [vL ((gi h 2 (39 + y2)) + 1), vI 0, vI 99]) (rest := [vI (39 + y2), vR (some 2)]) (Or.inl rfl) ml_RX8_428 rfl (by decide) (Nat.le_of_ble_eq_true rfl) rfl dX8_tideIt_112 (c_X8_within  K.1 ?_))
    replace K := K.2
    show J _ _ _ _ _ _ _ [vI (zwit ((gi h 2 (39 + y2)) + 1) 0 99), vI (39 + y2), vR (some 2)] _
    refine J_iastore (Or.inl rfl) K.1 dX8_tideIt_115 ?_
    replace K := K.2
    replace K := K _ rfl
    refine J_iinc (loc' := [some (vR (some 0)), some (vI y1), some (vI (y2 + 1)), none]) (by decide) rfl K.1 rfl dX8_tideIt_116 ?_
    replace K := K.2
    refine J_goto (tgt := 83) dX8_tideIt_119 (by decide) ?_
    exact J_forget (loc' := [some (vR (some 0)), some (vI y1), some (vI (y2 + 1)), none]) (And.intro (Or.inr rfl) (And.intro (Or.inr rfl) (And.intro (Or.inr rfl) (And.intro (Or.inl rfl) True.intro)))) K
set_option maxRecDepth 20000 in
set_option maxHeartbeats 2000000 in
theorem w_X8_tideIt {d b : Nat} {Q : Option AV → AH → Prop} {h : AH}   (K : Lp_X8_tideIt_4 d b Q 0 0 h) : WM GM (d + 1) b mX8_tideIt [vR (some 0)] h Q := by
  refine WM_introE (loc' := [some (vR (some 0)), none, none, none]) rfl (by decide) (Nat.le_of_ble_eq_true rfl) ?_
  refine J_iconst (by decide) dX8_tideIt_0 ?_
  refine J_istore_n (loc' := [some (vR (some 0)), some (vI 0), none, none]) (by decide) rfl dX8_tideIt_1 ?_
  refine J_iconst (by decide) dX8_tideIt_2 ?_
  refine J_istore_n (loc' := [some (vR (some 0)), some (vI 0), some (vI 0), none]) (by decide) rfl dX8_tideIt_3 ?_
  exact J_forget (loc' := [some (vR (some 0)), some (vI 0), some (vI 0), none]) (And.intro (Or.inr rfl) (And.intro (Or.inr rfl) (And.intro (Or.inr rfl) (And.intro (Or.inl rfl) True.intro)))) K
set_option maxRecDepth 20000 in
set_option maxHeartbeats 2000000 in
theorem w_X8_tideNow {d b : Nat} {Q : Option AV → AH → Prop} {h : AH}   (K : (gi h 2 5 = 999 → Q (some (vI (-3))) h) ∧ (¬(gi h 2 5 = 999) → WM GM (d + 1) 0 mX8_remember [vR (some 0), vI 4] h (fun r h1 => r = none ∧ WM GM (d + 1) 0 mX8_tideIt [vR (some 0)] h1 (fun r h2 => ∃ u2, r = some (vI u2) ∧ Q (some (vI u2)) h2)))) : WM GM (d + 2) b mX8_tideNow [vR (some 0)] h Q := by
  refine WM_introE (loc' := [some (vR (some 0))]) rfl (by decide) (Nat.le_of_ble_eq_true rfl) ?_
  refine J_aload_n rfl dX8_tideNow_0 ?_
  refine J_getS (r := 2) fl_RX8_13 rfl (Or.inl rfl) rfl dX8_tideNow_1 ?_
  refine J_iconst (by decide) dX8_tideNow_4 ?_
  refine J_iaload (Or.inl rfl) (by decide) dX8_tideNow_5 ?_
  refine J_sipush (by decide) (by decide) dX8_tideNow_6 ?_
  refine J_icmp_ne (tgt := 15) dX8_tideNow_9 (by decide) (fun c => ?_) (fun c => ?_)
  · replace K := K.2 c
    refine J_aload_n rfl dX8_tideNow_15 ?_
    refine J_iconst (by decide) dX8_tideNow_16 ?_
    refine J_b0 (J_callV (b1 := 0) (ci := 8) (vs := [vI 4]) (rest := []) (Or.inl rfl) ml_RX8_435 rfl (by decide) rfl rfl (Or.inl rfl) (Nat.le_of_ble_eq_true rfl) rfl dX8_tideNow_17 (WM_mono K (fun r h1 K => ?_)))
    obtain ⟨rfl, K⟩ := K
    show J _ _ _ _ _ _ _ [] _
    refine J_aload_n rfl dX8_tideNow_20 ?_
    refine J_b0 (J_callV (b1 := 0) (ci := 8) (vs := []) (rest := []) (Or.inl rfl) ml_RX8_462 rfl (by decide) rfl rfl (Or.inl rfl) (Nat.le_of_ble_eq_true rfl) rfl dX8_tideNow_21 (WM_mono K (fun r h2 K => ?_)))
    obtain ⟨u2, rfl, K⟩ := K
    show J _ _ _ _ _ _ _ [vI u2] _
    exact J_ireturn rfl dX8_tideNow_24 K
  · replace K := K.1 c
    refine J_bipush (by decide) (by decide) dX8_tideNow_12 ?_
    exact J_ireturn rfl dX8_tideNow_14 K
set_option maxRecDepth 20000 in
set_option maxHeartbeats 2000000 in
theorem w_X8_launch {d b : Nat} {Q : Option AV → AH → Prop} {h : AH} {x1 : Int}  (K : R32 x1 → ∀ h1, h1 = si h 0 0 0 → WM GM (d + 6) 0 mX8_launchNow [vR (some 0), vI x1] h1 (fun r h2 => ∃ u1, r = some (vI u1) ∧ (-7 < u1) ∧ (∀ i : Int, 0 ≤ i → i < 7 → 0 ≤ gi h2 1 i ∧ gi h2 1 i ≤ 1000000) ∧ ∀ h3, h3 = mTell h2 u1 → Q (some (vI u1)) h3)) : WM GM (d + 7) b mX8_launch [vR (some 0), vI x1] h Q := by
  refine WM_introE (loc' := [some (vR (some 0)), some (vI x1)]) rfl (by decide) (Nat.le_of_ble_eq_true rfl) ?_
  refine J_rgl (i := 1) rfl (fun r1 => ?_)
  replace K := K r1
  refine J_aload_n rfl dX8_launch_0 ?_
  refine J_iconst (by decide) dX8_launch_1 ?_
  refine J_putI fl_RX8_161 rfl (Or.inl rfl) dX8_launch_2 ?_
  replace K := K _ rfl
  refine J_aload_n rfl dX8_launch_5 ?_
  refine J_aload_n rfl dX8_launch_6 ?_
  refine J_iload_n rfl dX8_launch_7 ?_
  refine J_b0 (J_callV (b1 := 0) (ci := 8) (vs := [vI x1]) (rest := [vR (some 0)]) (Or.inl rfl) ml_RX8_438 rfl (by decide) rfl rfl (Or.inl rfl) (Nat.le_of_ble_eq_true rfl) rfl dX8_launch_8 (WM_mono K (fun r h2 K => ?_)))
  obtain ⟨u1, rfl, K⟩ := K
  show J _ _ _ _ _ _ _ [vI u1, vR (some 0)] _
  refine J_b0 (J_callV (b1 := 0) (ci := 8) (vs := [vI u1]) (rest := []) (Or.inl rfl) ml_RX8_170 rfl (by decide) rfl rfl (Or.inl rfl) (Nat.le_of_ble_eq_true rfl) rfl dX8_launch_11 (c_X8_tell  K.1 K.2.1 ?_))
  replace K := K.2.2
  replace K := K _ rfl
  show J _ _ _ _ _ _ _ [vI u1] _
  exact J_ireturn rfl dX8_launch_14 K
set_option maxRecDepth 20000 in
set_option maxHeartbeats 2000000 in
theorem w_X8_sail {d b : Nat} {Q : Option AV → AH → Prop} {h : AH} {x1 : Int} {x2 : Int}  (K : R32 x1 → R32 x2 → ∀ h1, h1 = si h 0 0 0 → WM GM (d + 2) 0 mX8_sailNow [vR (some 0), vI x1, vI x2] h1 (fun r h2 => ∃ u1, r = some (vI u1) ∧ (-7 < u1) ∧ (∀ i : Int, 0 ≤ i → i < 7 → 0 ≤ gi h2 1 i ∧ gi h2 1 i ≤ 1000000) ∧ ∀ h3, h3 = mTell h2 u1 → Q (some (vI u1)) h3)) : WM GM (d + 3) b mX8_sail [vR (some 0), vI x1, vI x2] h Q := by
  refine WM_introE (loc' := [some (vR (some 0)), some (vI x1), some (vI x2)]) rfl (by decide) (Nat.le_of_ble_eq_true rfl) ?_
  refine J_rgl (i := 1) rfl (fun r1 => ?_)
  replace K := K r1
  refine J_rgl (i := 2) rfl (fun r2 => ?_)
  replace K := K r2
  refine J_aload_n rfl dX8_sail_0 ?_
  refine J_iconst (by decide) dX8_sail_1 ?_
  refine J_putI fl_RX8_161 rfl (Or.inl rfl) dX8_sail_2 ?_
  replace K := K _ rfl
  refine J_aload_n rfl dX8_sail_5 ?_
  refine J_aload_n rfl dX8_sail_6 ?_
  refine J_iload_n rfl dX8_sail_7 ?_
  refine J_iload_n rfl dX8_sail_8 ?_
  refine J_b0 (J_callV (b1 := 0) (ci := 8) (vs := [vI x1, vI x2]) (rest := [vR (some 0)]) (Or.inl rfl) ml_RX8_447 rfl (by decide) rfl rfl (Or.inl rfl) (Nat.le_of_ble_eq_true rfl) rfl dX8_sail_9 (WM_mono K (fun r h2 K => ?_)))
  obtain ⟨u1, rfl, K⟩ := K
  show J _ _ _ _ _ _ _ [vI u1, vR (some 0)] _
  refine J_b0 (J_callV (b1 := 0) (ci := 8) (vs := [vI u1]) (rest := []) (Or.inl rfl) ml_RX8_170 rfl (by decide) rfl rfl (Or.inl rfl) (Nat.le_of_ble_eq_true rfl) rfl dX8_sail_12 (c_X8_tell  K.1 K.2.1 ?_))
  replace K := K.2.2
  replace K := K _ rfl
  show J _ _ _ _ _ _ _ [vI u1] _
  exact J_ireturn rfl dX8_sail_15 K
set_option maxRecDepth 20000 in
set_option maxHeartbeats 2000000 in
theorem w_X8_fish {d b : Nat} {Q : Option AV → AH → Prop} {h : AH} {x1 : Int}  (K : R32 x1 → ∀ h1, h1 = si h 0 0 0 → WM GM (d + 7) 0 mX8_fishNow [vR (some 0), vI x1] h1 (fun r h2 => ∃ u1, r = some (vI u1) ∧ (-7 < u1) ∧ (∀ i : Int, 0 ≤ i → i < 7 → 0 ≤ gi h2 1 i ∧ gi h2 1 i ≤ 1000000) ∧ ∀ h3, h3 = mTell h2 u1 → Q (some (vI u1)) h3)) : WM GM (d + 8) b mX8_fish [vR (some 0), vI x1] h Q := by
  refine WM_introE (loc' := [some (vR (some 0)), some (vI x1)]) rfl (by decide) (Nat.le_of_ble_eq_true rfl) ?_
  refine J_rgl (i := 1) rfl (fun r1 => ?_)
  replace K := K r1
  refine J_aload_n rfl dX8_fish_0 ?_
  refine J_iconst (by decide) dX8_fish_1 ?_
  refine J_putI fl_RX8_161 rfl (Or.inl rfl) dX8_fish_2 ?_
  replace K := K _ rfl
  refine J_aload_n rfl dX8_fish_5 ?_
  refine J_aload_n rfl dX8_fish_6 ?_
  refine J_iload_n rfl dX8_fish_7 ?_
  refine J_b0 (J_callV (b1 := 0) (ci := 8) (vs := [vI x1]) (rest := [vR (some 0)]) (Or.inl rfl) ml_RX8_453 rfl (by decide) rfl rfl (Or.inl rfl) (Nat.le_of_ble_eq_true rfl) rfl dX8_fish_8 (WM_mono K (fun r h2 K => ?_)))
  obtain ⟨u1, rfl, K⟩ := K
  show J _ _ _ _ _ _ _ [vI u1, vR (some 0)] _
  refine J_b0 (J_callV (b1 := 0) (ci := 8) (vs := [vI u1]) (rest := []) (Or.inl rfl) ml_RX8_170 rfl (by decide) rfl rfl (Or.inl rfl) (Nat.le_of_ble_eq_true rfl) rfl dX8_fish_11 (c_X8_tell  K.1 K.2.1 ?_))
  replace K := K.2.2
  replace K := K _ rfl
  show J _ _ _ _ _ _ _ [vI u1] _
  exact J_ireturn rfl dX8_fish_14 K
set_option maxRecDepth 20000 in
set_option maxHeartbeats 2000000 in
theorem w_X8_hang {d b : Nat} {Q : Option AV → AH → Prop} {h : AH} {x1 : Int} {x2 : Int}  (K : R32 x1 → R32 x2 → ∀ h1, h1 = si h 0 0 0 → WM GM (d + 6) 0 mX8_hangNow [vR (some 0), vI x1, vI x2] h1 (fun r h2 => ∃ u1, r = some (vI u1) ∧ (-7 < u1) ∧ (∀ i : Int, 0 ≤ i → i < 7 → 0 ≤ gi h2 1 i ∧ gi h2 1 i ≤ 1000000) ∧ ∀ h3, h3 = mTell h2 u1 → Q (some (vI u1)) h3)) : WM GM (d + 7) b mX8_hang [vR (some 0), vI x1, vI x2] h Q := by
  refine WM_introE (loc' := [some (vR (some 0)), some (vI x1), some (vI x2)]) rfl (by decide) (Nat.le_of_ble_eq_true rfl) ?_
  refine J_rgl (i := 1) rfl (fun r1 => ?_)
  replace K := K r1
  refine J_rgl (i := 2) rfl (fun r2 => ?_)
  replace K := K r2
  refine J_aload_n rfl dX8_hang_0 ?_
  refine J_iconst (by decide) dX8_hang_1 ?_
  refine J_putI fl_RX8_161 rfl (Or.inl rfl) dX8_hang_2 ?_
  replace K := K _ rfl
  refine J_aload_n rfl dX8_hang_5 ?_
  refine J_aload_n rfl dX8_hang_6 ?_
  refine J_iload_n rfl dX8_hang_7 ?_
  refine J_iload_n rfl dX8_hang_8 ?_
  refine J_b0 (J_callV (b1 := 0) (ci := 8) (vs := [vI x1, vI x2]) (rest := [vR (some 0)]) (Or.inl rfl) ml_RX8_456 rfl (by decide) rfl rfl (Or.inl rfl) (Nat.le_of_ble_eq_true rfl) rfl dX8_hang_9 (WM_mono K (fun r h2 K => ?_)))
  obtain ⟨u1, rfl, K⟩ := K
  show J _ _ _ _ _ _ _ [vI u1, vR (some 0)] _
  refine J_b0 (J_callV (b1 := 0) (ci := 8) (vs := [vI u1]) (rest := []) (Or.inl rfl) ml_RX8_170 rfl (by decide) rfl rfl (Or.inl rfl) (Nat.le_of_ble_eq_true rfl) rfl dX8_hang_12 (c_X8_tell  K.1 K.2.1 ?_))
  replace K := K.2.2
  replace K := K _ rfl
  show J _ _ _ _ _ _ _ [vI u1] _
  exact J_ireturn rfl dX8_hang_15 K
set_option maxRecDepth 20000 in
set_option maxHeartbeats 2000000 in
theorem w_X8_tide {d b : Nat} {Q : Option AV → AH → Prop} {h : AH}   (K : ∀ h1, h1 = si h 0 0 0 → WM GM (d + 2) 0 mX8_tideNow [vR (some 0)] h1 (fun r h2 => ∃ u1, r = some (vI u1) ∧ (-7 < u1) ∧ (∀ i : Int, 0 ≤ i → i < 7 → 0 ≤ gi h2 1 i ∧ gi h2 1 i ≤ 1000000) ∧ ∀ h3, h3 = mTell h2 u1 → Q (some (vI u1)) h3)) : WM GM (d + 3) b mX8_tide [vR (some 0)] h Q := by
  refine WM_introE (loc' := [some (vR (some 0))]) rfl (by decide) (Nat.le_of_ble_eq_true rfl) ?_
  refine J_aload_n rfl dX8_tide_0 ?_
  refine J_iconst (by decide) dX8_tide_1 ?_
  refine J_putI fl_RX8_161 rfl (Or.inl rfl) dX8_tide_2 ?_
  replace K := K _ rfl
  refine J_aload_n rfl dX8_tide_5 ?_
  refine J_aload_n rfl dX8_tide_6 ?_
  refine J_b0 (J_callV (b1 := 0) (ci := 8) (vs := []) (rest := [vR (some 0)]) (Or.inl rfl) ml_RX8_465 rfl (by decide) rfl rfl (Or.inl rfl) (Nat.le_of_ble_eq_true rfl) rfl dX8_tide_7 (WM_mono K (fun r h2 K => ?_)))
  obtain ⟨u1, rfl, K⟩ := K
  show J _ _ _ _ _ _ _ [vI u1, vR (some 0)] _
  refine J_b0 (J_callV (b1 := 0) (ci := 8) (vs := [vI u1]) (rest := []) (Or.inl rfl) ml_RX8_170 rfl (by decide) rfl rfl (Or.inl rfl) (Nat.le_of_ble_eq_true rfl) rfl dX8_tide_10 (c_X8_tell  K.1 K.2.1 ?_))
  replace K := K.2.2
  replace K := K _ rfl
  show J _ _ _ _ _ _ _ [vI u1] _
  exact J_ireturn rfl dX8_tide_13 K
set_option maxRecDepth 20000 in
set_option maxHeartbeats 2000000 in
theorem w_X8_undo {d b : Nat} {Q : Option AV → AH → Prop} {h : AH}   (K : ∀ h1, h1 = si h 0 0 0 → (gi h 0 8 = 0 → (-7 < (-3)) ∧ (∀ i : Int, 0 ≤ i → i < 7 → 0 ≤ gi h1 1 i ∧ gi h1 1 i ≤ 1000000) ∧ ∀ h5, h5 = mTell h1 (-3) → Q (some (vI (-3))) h5) ∧ (¬(gi h 0 8 = 0) → R32 ((gi h 0 8) - 1) ∧ ∀ h2, h2 = si h1 0 8 ((gi h 0 8) - 1) → WM GM d 0 mX8_putBack [vR (some 0), vI ((gi h 0 8) - 1)] h2 (fun r h3 => r = none ∧ (0 ≤ gi h3 0 8 ∧ gi h3 0 8 < 16) ∧ (-7 < (gi h3 6 (gi h3 0 8))) ∧ (∀ i : Int, 0 ≤ i → i < 7 → 0 ≤ gi h3 1 i ∧ gi h3 1 i ≤ 1000000) ∧ ∀ h4, h4 = mTell h3 (gi h3 6 (gi h3 0 8)) → Q (some (vI (gi h3 6 (gi h3 0 8)))) h4))) : WM GM (d + 1) b mX8_undo [vR (some 0)] h Q := by
  refine WM_introE (loc' := [some (vR (some 0))]) rfl (by decide) (Nat.le_of_ble_eq_true rfl) ?_
  refine J_aload_n rfl dX8_undo_0 ?_
  refine J_iconst (by decide) dX8_undo_1 ?_
  refine J_putI fl_RX8_161 rfl (Or.inl rfl) dX8_undo_2 ?_
  replace K := K _ rfl
  refine J_aload_n rfl dX8_undo_5 ?_
  refine J_getIe fl_RX8_167 rfl (Or.inl rfl) (gi_nk (by decide)) dX8_undo_6 ?_
  refine J_if_ne (tgt := 19) dX8_undo_9 (by decide) (fun c => ?_) (fun c => ?_)
  · replace K := K.2 c
    refine J_aload_n rfl dX8_undo_19 ?_
    refine J_dup rfl dX8_undo_20 ?_
    refine J_getIe fl_RX8_167 rfl (Or.inl rfl) (gi_nk (by decide)) dX8_undo_21 ?_
    refine J_iconst (by decide) dX8_undo_24 ?_
    refine J_isub K.1 dX8_undo_25 ?_
    replace K := K.2
    refine J_putI fl_RX8_167 rfl (Or.inl rfl) dX8_undo_26 ?_
    replace K := K _ rfl
    refine J_aload_n rfl dX8_undo_29 ?_
    refine J_aload_n rfl dX8_undo_30 ?_
    refine J_getIe fl_RX8_167 rfl (Or.inl rfl) gi_eq dX8_undo_31 ?_
    refine J_b0 (J_callV (b1 := 0) (ci := 8) (vs := [vI ((gi h 0 8) - 1)]) (rest := []) (Or.inl rfl) ml_RX8_178 rfl (by decide) rfl rfl (Or.inl rfl) (Nat.le_of_ble_eq_true rfl) rfl dX8_undo_34 (WM_mono K (fun r h3 K => ?_)))
    obtain ⟨rfl, K⟩ := K
    show J _ _ _ _ _ _ _ [] _
    refine J_aload_n rfl dX8_undo_37 ?_
    refine J_aload_n rfl dX8_undo_38 ?_
    refine J_getS (r := 6) fl_RX8_26 rfl (Or.inl rfl) rfl dX8_undo_39 ?_
    refine J_aload_n rfl dX8_undo_42 ?_
    refine J_getI fl_RX8_167 rfl (Or.inl rfl) dX8_undo_43 ?_
    refine J_iaload (Or.inl rfl) K.1 dX8_undo_46 ?_
    replace K := K.2
    refine J_b0 (J_callV (b1 := 0) (ci := 8) (vs := [vI _]) (rest := []) (Or.inl rfl) ml_RX8_170 rfl (by decide) rfl rfl (Or.inl rfl) (Nat.le_of_ble_eq_true rfl) rfl dX8_undo_47 (c_X8_tell  K.1 K.2.1 ?_))
    replace K := K.2.2
    replace K := K _ rfl
    show J _ _ _ _ _ _ _ [vI _] _
    exact J_ireturn rfl dX8_undo_50 K
  · replace K := K.1 c
    refine J_aload_n rfl dX8_undo_12 ?_
    refine J_bipush (by decide) (by decide) dX8_undo_13 ?_
    refine J_b0 (J_callV (b1 := 0) (ci := 8) (vs := [vI (-3)]) (rest := []) (Or.inl rfl) ml_RX8_170 rfl (by decide) rfl rfl (Or.inl rfl) (Nat.le_of_ble_eq_true rfl) rfl dX8_undo_15 (c_X8_tell  K.1 K.2.1 ?_))
    replace K := K.2.2
    replace K := K _ rfl
    show J _ _ _ _ _ _ _ [vI (-3)] _
    exact J_ireturn rfl dX8_undo_18 K
def Lp_X8_row_35 (d b : Nat) (Q : Option AV → AH → Prop)  (y1 : Int) (y2 : Int) (y3 : Int) (h : AH) : Prop := J GM (d + 2) b mX8_row Q 35 [some (vR (some 0)), some (vI y1), some (vI y2), some (vI y3)] [] h
set_option maxRecDepth 20000 in
set_option maxHeartbeats 2000000 in
theorem l_X8_row_35 {d b : Nat} {Q : Option AV → AH → Prop} {h : AH}  {y1 : Int} {y2 : Int} {y3 : Int}  (K : (y1 ≤ y3 → (-7 < y2) ∧ (∀ i : Int, 0 ≤ i → i < 7 → 0 ≤ gi h 1 i ∧ gi h 1 i ≤ 1000000) ∧ ∀ h1, h1 = mTell (si h 0 8 (if y2 < 0 then gi h 0 8 else 0)) y2 → Q (some (vI y2)) h1) ∧ (¬(y1 ≤ y3) → R32 (y3 + 1) ∧ (y1 ≤ y3 + 1 → R32 ((gi h 0 11) + 1) ∧ ∀ h2, h2 = si h 0 11 ((gi h 0 11) + 1) → R32 (y3 + 2) ∧ Lp_X8_row_35 d b Q y1 y2 (y3 + 2) h2) ∧ (¬(y1 ≤ y3 + 1) → R32 (Int.tdiv y3 2) ∧ ((0 : Int) ≤ (Int.tdiv y3 2) ∧ ((Int.tdiv y3 2) : Int) < 25 → (0 ≤ y3 ∧ y3 < 400) ∧ ((0 : Int) ≤ (gi h 9 y3) ∧ (((0 : Int) = 0 ∧ (gi h 9 y3) ≤ 99) ∨ ((0 : Int) = 1 ∧ (gi h 9 y3) ≤ 4)) → R32 (y3 + 1) ∧ (0 ≤ y3 + 1 ∧ y3 + 1 < 400) ∧ ((0 : Int) ≤ (gi h 9 (y3 + 1)) ∧ (((1 : Int) = 0 ∧ (gi h 9 (y3 + 1)) ≤ 99) ∨ ((1 : Int) = 1 ∧ (gi h 9 (y3 + 1)) ≤ 4)) → R32 (Int.tdiv y3 2) ∧ R32 (39 + (Int.tdiv y3 2)) ∧ (0 ≤ y3 ∧ y3 < 400) ∧ (0 ≤ 39 + (Int.tdiv y3 2) ∧ 39 + (Int.tdiv y3 2) < 5540) ∧ ∀ h6, h6 = si h 2 (39 + (Int.tdiv y3 2)) (gi h 9 y3) → R32 (Int.tdiv y3 2) ∧ R32 (104 + (Int.tdiv y3 2)) ∧ R32 (y3 + 1) ∧ (0 ≤ y3 + 1 ∧ y3 + 1 < 400) ∧ (0 ≤ 104 + (Int.tdiv y3 2) ∧ 104 + (Int.tdiv y3 2) < 5540) ∧ ∀ h7, h7 = si h6 2 (104 + (Int.tdiv y3 2)) (gi h 9 (y3 + 1)) → R32 (y2 + 1) ∧ R32 (y3 + 2) ∧ Lp_X8_row_35 d b Q y1 (y2 + 1) (y3 + 2) h7) ∧ (¬((0 : Int) ≤ (gi h 9 (y3 + 1)) ∧ (((1 : Int) = 0 ∧ (gi h 9 (y3 + 1)) ≤ 99) ∨ ((1 : Int) = 1 ∧ (gi h 9 (y3 + 1)) ≤ 4))) → R32 ((gi h 0 11) + 1) ∧ ∀ h5, h5 = si h 0 11 ((gi h 0 11) + 1) → R32 (y3 + 2) ∧ Lp_X8_row_35 d b Q y1 y2 (y3 + 2) h5)) ∧ (¬((0 : Int) ≤ (gi h 9 y3) ∧ (((0 : Int) = 0 ∧ (gi h 9 y3) ≤ 99) ∨ ((0 : Int) = 1 ∧ (gi h 9 y3) ≤ 4))) → R32 ((gi h 0 11) + 1) ∧ ∀ h4, h4 = si h 0 11 ((gi h 0 11) + 1) → R32 (y3 + 2) ∧ Lp_X8_row_35 d b Q y1 y2 (y3 + 2) h4)) ∧ (¬((0 : Int) ≤ (Int.tdiv y3 2) ∧ ((Int.tdiv y3 2) : Int) < 25) → R32 ((gi h 0 11) + 1) ∧ ∀ h3, h3 = si h 0 11 ((gi h 0 11) + 1) → R32 (y3 + 2) ∧ Lp_X8_row_35 d b Q y1 y2 (y3 + 2) h3)))) : Lp_X8_row_35 d b Q y1 y2 y3 h := by
  unfold Lp_X8_row_35
  refine J_iload_n rfl dX8_row_35 ?_
  refine J_iload_n rfl dX8_row_36 ?_
  refine J_icmp_ge (tgt := 142) dX8_row_37 (by decide) (fun c => ?_) (fun c => ?_)
  · replace K := K.1 c
    refine J_aload_n rfl dX8_row_142 ?_
    refine J_iload_n rfl dX8_row_143 ?_
    refine J_b0 (J_callV (b1 := 0) (ci := 8) (vs := [vI y2]) (rest := []) (Or.inl rfl) ml_RX8_185 rfl (by decide) rfl rfl (Or.inl rfl) (Nat.le_of_ble_eq_true rfl) rfl dX8_row_144 (c_X8_settled  K.1 K.2.1 ?_))
    replace K := K.2.2
    replace K := K _ rfl
    show J _ _ _ _ _ _ _ [vI y2] _
    exact J_ireturn rfl dX8_row_147 K
  · replace K := K.2 c
    refine J_iload_n rfl dX8_row_40 ?_
    refine J_iconst (by decide) dX8_row_41 ?_
    refine J_iadd K.1 dX8_row_42 ?_
    replace K := K.2
    refine J_iload_n rfl dX8_row_43 ?_
    refine J_icmp_ge (tgt := 126) dX8_row_44 (by decide) (fun c => ?_) (fun c => ?_)
    · replace K := K.1 c
      refine J_aload_n rfl dX8_row_126 ?_
      refine J_dup rfl dX8_row_127 ?_
      refine J_getI fl_RX8_241 rfl (Or.inl rfl) dX8_row_128 ?_
      refine J_iconst (by decide) dX8_row_131 ?_
      refine J_iadd K.1 dX8_row_132 ?_
      replace K := K.2
      refine J_putI fl_RX8_241 rfl (Or.inl rfl) dX8_row_133 ?_
      replace K := K _ rfl
      refine J_iinc (loc' := [some (vR (some 0)), some (vI y1), some (vI y2), some (vI (y3 + 2))]) (by decide) rfl K.1 rfl dX8_row_136 ?_
      replace K := K.2
      refine J_goto (tgt := 35) dX8_row_139 (by decide) ?_
      exact J_forget (loc' := [some (vR (some 0)), some (vI y1), some (vI y2), some (vI (y3 + 2))]) (And.intro (Or.inr rfl) (And.intro (Or.inr rfl) (And.intro (Or.inr rfl) (And.intro (Or.inr rfl) True.intro)))) K
    · replace K := K.2 c
      refine J_iload_n rfl dX8_row_47 ?_
      refine J_iconst (by decide) dX8_row_48 ?_
      refine J_idiv (by decide) K.1 dX8_row_49 ?_
      replace K := K.2
      refine J_b0 (J_callS (b1 := 0) (vs := [vI (Int.tdiv y3 2)]) (rest := []) (Or.inl rfl) ml_RX8_217 rfl (by decide) (Nat.le_of_ble_eq_true rfl) rfl dX8_row_50 (c_X8_isCell   ?_))
      show J _ _ _ _ _ _ _ [vI (b2i ((0 : Int) ≤ (Int.tdiv y3 2) ∧ ((Int.tdiv y3 2) : Int) < 25))] _
      refine J_if_eq (tgt := 126) dX8_row_53 (by decide) (fun c => ?_) (fun c => ?_)
      · replace K := K.2 (b2i_0.mp c)
        refine J_aload_n rfl dX8_row_126 ?_
        refine J_dup rfl dX8_row_127 ?_
        refine J_getI fl_RX8_241 rfl (Or.inl rfl) dX8_row_128 ?_
        refine J_iconst (by decide) dX8_row_131 ?_
        refine J_iadd K.1 dX8_row_132 ?_
        replace K := K.2
        refine J_putI fl_RX8_241 rfl (Or.inl rfl) dX8_row_133 ?_
        replace K := K _ rfl
        refine J_iinc (loc' := [some (vR (some 0)), some (vI y1), some (vI y2), some (vI (y3 + 2))]) (by decide) rfl K.1 rfl dX8_row_136 ?_
        replace K := K.2
        refine J_goto (tgt := 35) dX8_row_139 (by decide) ?_
        exact J_forget (loc' := [some (vR (some 0)), some (vI y1), some (vI y2), some (vI (y3 + 2))]) (And.intro (Or.inr rfl) (And.intro (Or.inr rfl) (And.intro (Or.inr rfl) (And.intro (Or.inr rfl) True.intro)))) K
      · replace K := K.1 (b2i_n0.mp c)
        refine J_iconst (by decide) dX8_row_56 ?_
        refine J_aload_n rfl dX8_row_57 ?_
        refine J_getS (r := 9) fl_RX8_35 rfl (Or.inl rfl) rfl dX8_row_58 ?_
        refine J_iload_n rfl dX8_row_61 ?_
        refine J_iaload (Or.inl rfl) K.1 dX8_row_62 ?_
        replace K := K.2
        refine J_b0 (J_callS (b1 := 0) (vs := [vI 0, vI (gi h 9 y3)]) (rest := []) (Or.inl rfl) ml_RX8_220 rfl (by decide) (Nat.le_of_ble_eq_true rfl) rfl dX8_row_63 (c_X8_canBe   ?_))
        show J _ _ _ _ _ _ _ [vI (b2i ((0 : Int) ≤ (gi h 9 y3) ∧ (((0 : Int) = 0 ∧ (gi h 9 y3) ≤ 99) ∨ ((0 : Int) = 1 ∧ (gi h 9 y3) ≤ 4))))] _
        refine J_if_eq (tgt := 126) dX8_row_66 (by decide) (fun c => ?_) (fun c => ?_)
        · replace K := K.2 (b2i_0.mp c)
          refine J_aload_n rfl dX8_row_126 ?_
          refine J_dup rfl dX8_row_127 ?_
          refine J_getI fl_RX8_241 rfl (Or.inl rfl) dX8_row_128 ?_
          refine J_iconst (by decide) dX8_row_131 ?_
          refine J_iadd K.1 dX8_row_132 ?_
          replace K := K.2
          refine J_putI fl_RX8_241 rfl (Or.inl rfl) dX8_row_133 ?_
          replace K := K _ rfl
          refine J_iinc (loc' := [some (vR (some 0)), some (vI y1), some (vI y2), some (vI (y3 + 2))]) (by decide) rfl K.1 rfl dX8_row_136 ?_
          replace K := K.2
          refine J_goto (tgt := 35) dX8_row_139 (by decide) ?_
          exact J_forget (loc' := [some (vR (some 0)), some (vI y1), some (vI y2), some (vI (y3 + 2))]) (And.intro (Or.inr rfl) (And.intro (Or.inr rfl) (And.intro (Or.inr rfl) (And.intro (Or.inr rfl) True.intro)))) K
        · replace K := K.1 (b2i_n0.mp c)
          refine J_iconst (by decide) dX8_row_69 ?_
          refine J_aload_n rfl dX8_row_70 ?_
          refine J_getS (r := 9) fl_RX8_35 rfl (Or.inl rfl) rfl dX8_row_71 ?_
          refine J_iload_n rfl dX8_row_74 ?_
          refine J_iconst (by decide) dX8_row_75 ?_
          refine J_iadd K.1 dX8_row_76 ?_
          replace K := K.2
          refine J_iaload (Or.inl rfl) K.1 dX8_row_77 ?_
          replace K := K.2
          refine J_b0 (J_callS (b1 := 0) (vs := [vI 1, vI (gi h 9 (y3 + 1))]) (rest := []) (Or.inl rfl) ml_RX8_220 rfl (by decide) (Nat.le_of_ble_eq_true rfl) rfl dX8_row_78 (c_X8_canBe   ?_))
          show J _ _ _ _ _ _ _ [vI (b2i ((0 : Int) ≤ (gi h 9 (y3 + 1)) ∧ (((1 : Int) = 0 ∧ (gi h 9 (y3 + 1)) ≤ 99) ∨ ((1 : Int) = 1 ∧ (gi h 9 (y3 + 1)) ≤ 4))))] _
          refine J_if_eq (tgt := 126) dX8_row_81 (by decide) (fun c => ?_) (fun c => ?_)
          · replace K := K.2 (b2i_0.mp c)
            refine J_aload_n rfl dX8_row_126 ?_
            refine J_dup rfl dX8_row_127 ?_
            refine J_getI fl_RX8_241 rfl (Or.inl rfl) dX8_row_128 ?_
            refine J_iconst (by decide) dX8_row_131 ?_
            refine J_iadd K.1 dX8_row_132 ?_
            replace K := K.2
            refine J_putI fl_RX8_241 rfl (Or.inl rfl) dX8_row_133 ?_
            replace K := K _ rfl
            refine J_iinc (loc' := [some (vR (some 0)), some (vI y1), some (vI y2), some (vI (y3 + 2))]) (by decide) rfl K.1 rfl dX8_row_136 ?_
            replace K := K.2
            refine J_goto (tgt := 35) dX8_row_139 (by decide) ?_
            exact J_forget (loc' := [some (vR (some 0)), some (vI y1), some (vI y2), some (vI (y3 + 2))]) (And.intro (Or.inr rfl) (And.intro (Or.inr rfl) (And.intro (Or.inr rfl) (And.intro (Or.inr rfl) True.intro)))) K
          · replace K := K.1 (b2i_n0.mp c)
            refine J_aload_n rfl dX8_row_84 ?_
            refine J_getS (r := 2) fl_RX8_13 rfl (Or.inl rfl) rfl dX8_row_85 ?_
            refine J_bipush (by decide) (by decide) dX8_row_88 ?_
            refine J_iload_n rfl dX8_row_90 ?_
            refine J_iconst (by decide) dX8_row_91 ?_
            refine J_idiv (by decide) K.1 dX8_row_92 ?_
            replace K := K.2
            refine J_iadd K.1 dX8_row_93 ?_
            replace K := K.2
            refine J_aload_n rfl dX8_row_94 ?_
            refine J_getS (r := 9) fl_RX8_35 rfl (Or.inl rfl) rfl dX8_row_95 ?_
            refine J_iload_n rfl dX8_row_98 ?_
            refine J_iaload (Or.inl rfl) K.1 dX8_row_99 ?_
            replace K := K.2
            refine J_iastore (Or.inl rfl) K.1 dX8_row_100 ?_
            replace K := K.2
            replace K := K _ rfl
            refine J_aload_n rfl dX8_row_101 ?_
            refine J_getS (r := 2) fl_RX8_13 rfl (Or.inl rfl) rfl dX8_row_102 ?_
            refine J_bipush (by decide) (by decide) dX8_row_105 ?_
            refine J_iload_n rfl dX8_row_107 ?_
            refine J_iconst (by decide) dX8_row_108 ?_
            refine J_idiv (by decide) K.1 dX8_row_109 ?_
            replace K := K.2
            refine J_iadd K.1 dX8_row_110 ?_
            replace K := K.2
            refine J_aload_n rfl dX8_row_111 ?_
            refine J_getS (r := 9) fl_RX8_35 rfl (Or.inl rfl) rfl dX8_row_112 ?_
            refine J_iload_n rfl dX8_row_115 ?_
            refine J_iconst (by decide) dX8_row_116 ?_
            refine J_iadd K.1 dX8_row_117 ?_
            replace K := K.2
            refine J_ialoade (Or.inl rfl) K.1 (gi_no (by decide)) dX8_row_118 ?_
            replace K := K.2
            refine J_iastore (Or.inl rfl) K.1 dX8_row_119 ?_
            replace K := K.2
            replace K := K _ rfl
            refine J_iinc (loc' := [some (vR (some 0)), some (vI y1), some (vI (y2 + 1)), some (vI y3)]) (by decide) rfl K.1 rfl dX8_row_120 ?_
            replace K := K.2
            refine J_goto (tgt := 136) dX8_row_123 (by decide) ?_
            refine J_iinc (loc' := [some (vR (some 0)), some (vI y1), some (vI (y2 + 1)), some (vI (y3 + 2))]) (by decide) rfl K.1 rfl dX8_row_136 ?_
            replace K := K.2
            refine J_goto (tgt := 35) dX8_row_139 (by decide) ?_
            exact J_forget (loc' := [some (vR (some 0)), some (vI y1), some (vI (y2 + 1)), some (vI (y3 + 2))]) (And.intro (Or.inr rfl) (And.intro (Or.inr rfl) (And.intro (Or.inr rfl) (And.intro (Or.inr rfl) True.intro)))) K
set_option maxRecDepth 20000 in
set_option maxHeartbeats 2000000 in
theorem w_X8_row {d b : Nat} {Q : Option AV → AH → Prop} {h : AH}   (K : ∀ h1, h1 = si h 0 0 0 → ∀ h2, h2 = si h1 0 13 0 → (gi h 0 13 = 0 → (-7 < (-6)) ∧ (∀ i : Int, 0 ≤ i → i < 7 → 0 ≤ gi h2 1 i ∧ gi h2 1 i ≤ 1000000) ∧ ∀ h4, h4 = mTell h2 (-6) → Q (some (vI (-6))) h4) ∧ (¬(gi h 0 13 = 0) → ∀ h3, h3 = si h2 0 11 0 → Lp_X8_row_35 d b Q (gi h 0 13) 0 0 h3)) : WM GM (d + 2) b mX8_row [vR (some 0)] h Q := by
  refine WM_introE (loc' := [some (vR (some 0)), none, none, none]) rfl (by decide) (Nat.le_of_ble_eq_true rfl) ?_
  refine J_aload_n rfl dX8_row_0 ?_
  refine J_iconst (by decide) dX8_row_1 ?_
  refine J_putI fl_RX8_161 rfl (Or.inl rfl) dX8_row_2 ?_
  replace K := K _ rfl
  refine J_aload_n rfl dX8_row_5 ?_
  refine J_getIe fl_RX8_238 rfl (Or.inl rfl) (gi_nk (by decide)) dX8_row_6 ?_
  refine J_istore_n (loc' := [some (vR (some 0)), some (vI (gi h 0 13)), none, none]) (by decide) rfl dX8_row_9 ?_
  refine J_aload_n rfl dX8_row_10 ?_
  refine J_iconst (by decide) dX8_row_11 ?_
  refine J_putI fl_RX8_238 rfl (Or.inl rfl) dX8_row_12 ?_
  replace K := K _ rfl
  refine J_iload_n rfl dX8_row_15 ?_
  refine J_if_ne (tgt := 26) dX8_row_16 (by decide) (fun c => ?_) (fun c => ?_)
  · replace K := K.2 c
    refine J_aload_n rfl dX8_row_26 ?_
    refine J_iconst (by decide) dX8_row_27 ?_
    refine J_putI fl_RX8_241 rfl (Or.inl rfl) dX8_row_28 ?_
    replace K := K _ rfl
    refine J_iconst (by decide) dX8_row_31 ?_
    refine J_istore_n (loc' := [some (vR (some 0)), some (vI (gi h 0 13)), some (vI 0), none]) (by decide) rfl dX8_row_32 ?_
    refine J_iconst (by decide) dX8_row_33 ?_
    refine J_istore_n (loc' := [some (vR (some 0)), some (vI (gi h 0 13)), some (vI 0), some (vI 0)]) (by decide) rfl dX8_row_34 ?_
    exact J_forget (loc' := [some (vR (some 0)), some (vI (gi h 0 13)), some (vI 0), some (vI 0)]) (And.intro (Or.inr rfl) (And.intro (Or.inr rfl) (And.intro (Or.inr rfl) (And.intro (Or.inr rfl) True.intro)))) K
  · replace K := K.1 c
    refine J_aload_n rfl dX8_row_19 ?_
    refine J_bipush (by decide) (by decide) dX8_row_20 ?_
    refine J_b0 (J_callV (b1 := 0) (ci := 8) (vs := [vI (-6)]) (rest := []) (Or.inl rfl) ml_RX8_170 rfl (by decide) rfl rfl (Or.inl rfl) (Nat.le_of_ble_eq_true rfl) rfl dX8_row_22 (c_X8_tell  K.1 K.2.1 ?_))
    replace K := K.2.2
    replace K := K _ rfl
    show J _ _ _ _ _ _ _ [vI (-6)] _
    exact J_ireturn rfl dX8_row_25 K
