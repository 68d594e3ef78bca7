def Lp_X0_driftsTo_5 (d b : Nat) (Q : Option AV → AH → Prop) (o : Nat) (y2 : Int) (y3 : Int) (y4 : Int) (h : AH) : Prop := J GX (d + 1) b mX0_driftsTo Q 5 [some (vR (some o)), none, some (vI y2), some (vI y3), some (vI y4)] [] h
set_option maxRecDepth 20000 in
set_option maxHeartbeats 2000000 in
theorem l_X0_driftsTo_5 {d b : Nat} {Q : Option AV → AH → Prop} {h : AH} {o : Nat} {y2 : Int} {y3 : Int} {y4 : Int} (ho : isl o) (K : (y2 ≤ y4 → Q (some (vI y3)) h) ∧ (¬(y2 ≤ y4) → ((0 : Int) ≤ y3 ∧ (y3 : Int) < 25 → (0 ≤ y3 ∧ y3 < 25) ∧ ((0 : Int) ≤ y3 ∧ (y3 : Int) < 25) ∧ R32 (y4 + 1) ∧ Lp_X0_driftsTo_5 d b Q o y2 (zbes y3 (gi h (o + 10) y3)) (y4 + 1) h) ∧ (¬((0 : Int) ≤ y3 ∧ (y3 : Int) < 25) → Q (some (vI y3)) h))) : Lp_X0_driftsTo_5 d b Q o y2 y3 y4 h := by
  unfold Lp_X0_driftsTo_5
  refine J_iload rfl dX0_driftsTo_5 ?_
  refine J_iload_n rfl dX0_driftsTo_7 ?_
  refine J_icmp_ge (tgt := 35) dX0_driftsTo_8 (by decide) (fun c => ?_) (fun c => ?_)
  · replace K := K.1 c
    refine J_iload_n rfl dX0_driftsTo_35 ?_
    exact J_ireturn rfl dX0_driftsTo_36 K
  · replace K := K.2 c
    refine J_iload_n rfl dX0_driftsTo_11 ?_
    refine J_b0 (J_callS (b1 := 0) (vs := [vI y3]) (rest := []) (Or.inr rfl) ml_RX0_93 rfl (by decide) (Nat.le_of_ble_eq_true rfl) rfl dX0_driftsTo_12 (c_X7_isCell   ?_))
    show J _ _ _ _ _ _ _ [vI (b2i ((0 : Int) ≤ y3 ∧ (y3 : Int) < 25))] _
    refine J_if_eq (tgt := 35) dX0_driftsTo_15 (by decide) (fun c => ?_) (fun c => ?_)
    · replace K := K.2 (b2i_0.mp c)
      refine J_iload_n rfl dX0_driftsTo_35 ?_
      exact J_ireturn rfl dX0_driftsTo_36 K
    · replace K := K.1 (b2i_n0.mp c)
      refine J_iload_n rfl dX0_driftsTo_18 ?_
      refine J_aload_n rfl dX0_driftsTo_19 ?_
      refine J_getS (r := o + 10) fl_RX0_46 rfl (Or.inl (gx_isl ho)) (gx_r10 ho) dX0_driftsTo_20 ?_
      refine J_iload_n rfl dX0_driftsTo_23 ?_
      refine J_iaload (Or.inl (gx_a10 ho)) K.1 dX0_driftsTo_24 ?_
      replace K := K.2
      refine J_b0 (J_callS (b1 := 0) (vs := [vI y3, vI (gi h (o + 10) y3)]) (rest := []) (Or.inl rfl) ml_RX0_96 rfl (by decide) (Nat.le_of_ble_eq_true rfl) rfl dX0_driftsTo_25 (c_X0_beside  K.1 ?_))
      replace K := K.2
      show J _ _ _ _ _ _ _ [vI (zbes y3 (gi h (o + 10) y3))] _
      refine J_istore_n (loc' := [some (vR (some o)), none, some (vI y2), some (vI (zbes y3 (gi h (o + 10) y3))), some (vI y4)]) (by decide) rfl dX0_driftsTo_28 ?_
      refine J_iinc (loc' := [some (vR (some o)), none, some (vI y2), some (vI (zbes y3 (gi h (o + 10) y3))), some (vI (y4 + 1))]) (by decide) rfl K.1 rfl dX0_driftsTo_29 ?_
      replace K := K.2
      refine J_goto (tgt := 5) dX0_driftsTo_32 (by decide) ?_
      exact J_forget (loc' := [some (vR (some o)), none, some (vI y2), some (vI (zbes y3 (gi h (o + 10) y3))), some (vI (y4 + 1))]) (And.intro (Or.inr rfl) (And.intro (Or.inl rfl) (And.intro (Or.inr rfl) (And.intro (Or.inr rfl) (And.intro (Or.inr rfl) True.intro))))) K
set_option maxRecDepth 20000 in
set_option maxHeartbeats 2000000 in
theorem w_X0_driftsTo {d b : Nat} {Q : Option AV → AH → Prop} {h : AH} {o : Nat} {x1 : Int} {x2 : Int} (ho : isl o) (K : Lp_X0_driftsTo_5 d b Q o x2 x1 0 h) : WM GX (d + 1) b mX0_driftsTo [vR (some o), vI x1, vI x2] h Q := by
  refine WM_introE (loc' := [some (vR (some o)), some (vI x1), some (vI x2), none, none]) rfl (by decide) (Nat.le_of_ble_eq_true rfl) ?_
  refine J_iload_n rfl dX0_driftsTo_0 ?_
  refine J_istore_n (loc' := [some (vR (some o)), some (vI x1), some (vI x2), some (vI x1), none]) (by decide) rfl dX0_driftsTo_1 ?_
  refine J_iconst (by decide) dX0_driftsTo_2 ?_
  refine J_istore (loc' := [some (vR (some o)), some (vI x1), some (vI x2), some (vI x1), some (vI 0)]) (by decide) rfl dX0_driftsTo_3 ?_
  exact J_forget (loc' := [some (vR (some o)), none, some (vI x2), some (vI x1), some (vI 0)]) (And.intro (Or.inr rfl) (And.intro (Or.inl rfl) (And.intro (Or.inr rfl) (And.intro (Or.inr rfl) (And.intro (Or.inr rfl) True.intro))))) K
def Lp_X0_leastUnlike_5 (d b : Nat) (Q : Option AV → AH → Prop) (o : Nat) (y1 : Int) (y2 : Int) (y3 : Int) (h : AH) : Prop := J GX (d + 1) b mX0_leastUnlike Q 5 [some (vR (some o)), some (vI y1), some (vI y2), some (vI y3)] [] h
set_option maxRecDepth 20000 in
set_option maxHeartbeats 2000000 in
theorem l_X0_leastUnlike_5 {d b : Nat} {Q : Option AV → AH → Prop} {h : AH} {o : Nat} {y1 : Int} {y2 : Int} {y3 : Int} (ho : isl o) (K : (gi h o 2 ≤ y3 → Q (some (vI y2)) h) ∧ (¬(gi h o 2 ≤ y3) → (0 ≤ y3 ∧ y3 < 8) ∧ ((0 : Int) ≤ (zxor (gi h (o + 5) y3) y1) ∧ ((zxor (gi h (o + 5) y3) y1) : Int) < 33554432) ∧ R32 (y3 + 1) ∧ Lp_X0_leastUnlike_5 d b Q o y1 (min y2 (pcI (zxor (gi h (o + 5) y3) y1))) (y3 + 1) h)) : Lp_X0_leastUnlike_5 d b Q o y1 y2 y3 h := by
  unfold Lp_X0_leastUnlike_5
  refine J_iload_n rfl dX0_leastUnlike_5 ?_
  refine J_aload_n rfl dX0_leastUnlike_6 ?_
  refine J_getI fl_RX0_19 rfl (Or.inl (gx_isl ho)) dX0_leastUnlike_7 ?_
  refine J_icmp_ge (tgt := 35) dX0_leastUnlike_10 (by decide) (fun c => ?_) (fun c => ?_)
  · replace K := K.1 c
    refine J_iload_n rfl dX0_leastUnlike_35 ?_
    exact J_ireturn rfl dX0_leastUnlike_36 K
  · replace K := K.2 c
    refine J_iload_n rfl dX0_leastUnlike_13 ?_
    refine J_aload_n rfl dX0_leastUnlike_14 ?_
    refine J_getS (r := o + 5) fl_RX0_31 rfl (Or.inl (gx_isl ho)) (gx_r5 ho) dX0_leastUnlike_15 ?_
    refine J_iload_n rfl dX0_leastUnlike_18 ?_
    refine J_iaload (Or.inl (gx_a5 ho)) K.1 dX0_leastUnlike_19 ?_
    replace K := K.2
    refine J_iload_n rfl dX0_leastUnlike_20 ?_
    refine J_ixor dX0_leastUnlike_21 ?_
    refine J_b0 (J_callS (b1 := 0) (vs := [vI (zxor (gi h (o + 5) y3) y1)]) (rest := [vI y2]) (Or.inl rfl) ml_RX0_108 rfl (by decide) (Nat.le_of_ble_eq_true rfl) rfl dX0_leastUnlike_22 (c_J6_bitCount  K.1 ?_))
    replace K := K.2
    show J _ _ _ _ _ _ _ [vI (pcI (zxor (gi h (o + 5) y3) y1)), vI y2] _
    refine J_mmin ml_RX0_100 (Nat.le_of_ble_eq_true rfl) dX0_leastUnlike_25 ?_
    refine J_istore_n (loc' := [some (vR (some o)), some (vI y1), some (vI (min y2 (pcI (zxor (gi h (o + 5) y3) y1)))), some (vI y3)]) (by decide) rfl dX0_leastUnlike_28 ?_
    refine J_iinc (loc' := [some (vR (some o)), some (vI y1), some (vI (min y2 (pcI (zxor (gi h (o + 5) y3) y1)))), some (vI (y3 + 1))]) (by decide) rfl K.1 rfl dX0_leastUnlike_29 ?_
    replace K := K.2
    refine J_goto (tgt := 5) dX0_leastUnlike_32 (by decide) ?_
    exact J_forget (loc' := [some (vR (some o)), some (vI y1), some (vI (min y2 (pcI (zxor (gi h (o + 5) y3) y1)))), some (vI (y3 + 1))]) (And.intro (Or.inr rfl) (And.intro (Or.inr rfl) (And.intro (Or.inr rfl) (And.intro (Or.inr rfl) True.intro)))) K
set_option maxRecDepth 20000 in
set_option maxHeartbeats 2000000 in
theorem w_X0_leastUnlike {d b : Nat} {Q : Option AV → AH → Prop} {h : AH} {o : Nat} {x1 : Int} (ho : isl o) (K : Lp_X0_leastUnlike_5 d b Q o x1 6 0 h) : WM GX (d + 1) b mX0_leastUnlike [vR (some o), vI x1] h Q := by
  refine WM_introE (loc' := [some (vR (some o)), some (vI x1), none, none]) rfl (by decide) (Nat.le_of_ble_eq_true rfl) ?_
  refine J_bipush (by decide) (by decide) dX0_leastUnlike_0 ?_
  refine J_istore_n (loc' := [some (vR (some o)), some (vI x1), some (vI 6), none]) (by decide) rfl dX0_leastUnlike_2 ?_
  refine J_iconst (by decide) dX0_leastUnlike_3 ?_
  refine J_istore_n (loc' := [some (vR (some o)), some (vI x1), some (vI 6), some (vI 0)]) (by decide) rfl dX0_leastUnlike_4 ?_
  exact J_forget (loc' := [some (vR (some o)), some (vI x1), some (vI 6), some (vI 0)]) (And.intro (Or.inr rfl) (And.intro (Or.inr rfl) (And.intro (Or.inr rfl) (And.intro (Or.inr rfl) True.intro)))) K
