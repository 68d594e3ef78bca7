def Lp_X3_endOf_51 (d b : Nat) (Q : Option AV → AH → Prop)  (y3 : Int) (h : AH) : Prop := J GX (d + 1) b mX3_endOf Q 51 [some (vR (some 29)), none, none, some (vI y3)] [] h
def Lp_X3_endOf_18 (d b : Nat) (Q : Option AV → AH → Prop)  (y3 : Int) (h : AH) : Prop := J GX (d + 1) b mX3_endOf Q 18 [some (vR (some 29)), none, none, some (vI y3)] [] h
set_option maxRecDepth 20000 in
set_option maxHeartbeats 2000000 in
theorem l_X3_endOf_51 {d b : Nat} {Q : Option AV → AH → Prop} {h : AH}  {y3 : Int}  (K : (gi h 29 1 ≤ y3 → Q (some (vI y3)) h) ∧ (¬(gi h 29 1 ≤ y3) → (0 ≤ y3 ∧ y3 < 400) ∧ (48 ≤ (gi h 30 y3) ∧ (gi h 30 y3) ≤ 57 → R32 (y3 + 1) ∧ Lp_X3_endOf_51 d b Q (y3 + 1) h) ∧ (¬(48 ≤ (gi h 30 y3) ∧ (gi h 30 y3) ≤ 57) → Q (some (vI y3)) h))) : Lp_X3_endOf_51 d b Q y3 h := by
  unfold Lp_X3_endOf_51
  refine J_iload_n rfl dX3_endOf_51 ?_
  refine J_aload_n rfl dX3_endOf_52 ?_
  refine J_getI fl_RX3_54 rfl (Or.inl rfl) dX3_endOf_53 ?_
  refine J_icmp_ge (tgt := 77) dX3_endOf_56 (by decide) (fun c => ?_) (fun c => ?_)
  · replace K := K.1 c
    refine J_iload_n rfl dX3_endOf_77 ?_
    exact J_ireturn rfl dX3_endOf_78 K
  · replace K := K.2 c
    refine J_aload_n rfl dX3_endOf_59 ?_
    refine J_getS (r := 30) fl_RX3_74 rfl (Or.inl rfl) rfl dX3_endOf_60 ?_
    refine J_iload_n rfl dX3_endOf_63 ?_
    refine J_iaload (Or.inl rfl) K.1 dX3_endOf_64 ?_
    replace K := K.2
    refine J_b0 (J_callS (b1 := 0) (vs := [vI (gi h 30 y3)]) (rest := []) (Or.inl rfl) ml_RX3_89 rfl (by decide) (Nat.le_of_ble_eq_true rfl) rfl dX3_endOf_65 (c_X3_isDigit   ?_))
    show J _ _ _ _ _ _ _ [vI (b2i (48 ≤ (gi h 30 y3) ∧ (gi h 30 y3) ≤ 57))] _
    refine J_if_eq (tgt := 77) dX3_endOf_68 (by decide) (fun c => ?_) (fun c => ?_)
    · replace K := K.2 (b2i_0.mp c)
      refine J_iload_n rfl dX3_endOf_77 ?_
      exact J_ireturn rfl dX3_endOf_78 K
    · replace K := K.1 (b2i_n0.mp c)
      refine J_iinc (loc' := [some (vR (some 29)), none, none, some (vI (y3 + 1))]) (by decide) rfl K.1 rfl dX3_endOf_71 ?_
      replace K := K.2
      refine J_goto (tgt := 51) dX3_endOf_74 (by decide) ?_
      exact J_forget (loc' := [some (vR (some 29)), none, none, some (vI (y3 + 1))]) (And.intro (Or.inr rfl) (And.intro (Or.inl rfl) (And.intro (Or.inl rfl) (And.intro (Or.inr rfl) True.intro)))) K
set_option maxRecDepth 20000 in
set_option maxHeartbeats 2000000 in
theorem l_X3_endOf_18 {d b : Nat} {Q : Option AV → AH → Prop} {h : AH}  {y3 : Int}  (K : (gi h 29 1 ≤ y3 → Q (some (vI y3)) h) ∧ (¬(gi h 29 1 ≤ y3) → (0 ≤ y3 ∧ y3 < 400) ∧ (97 ≤ (gi h 30 y3) ∧ (gi h 30 y3) ≤ 122 → R32 (y3 + 1) ∧ Lp_X3_endOf_18 d b Q (y3 + 1) h) ∧ (¬(97 ≤ (gi h 30 y3) ∧ (gi h 30 y3) ≤ 122) → Q (some (vI y3)) h))) : Lp_X3_endOf_18 d b Q y3 h := by
  unfold Lp_X3_endOf_18
  refine J_iload_n rfl dX3_endOf_18 ?_
  refine J_aload_n rfl dX3_endOf_19 ?_
  refine J_getI fl_RX3_54 rfl (Or.inl rfl) dX3_endOf_20 ?_
  refine J_icmp_ge (tgt := 77) dX3_endOf_23 (by decide) (fun c => ?_) (fun c => ?_)
  · replace K := K.1 c
    refine J_iload_n rfl dX3_endOf_77 ?_
    exact J_ireturn rfl dX3_endOf_78 K
  · replace K := K.2 c
    refine J_aload_n rfl dX3_endOf_26 ?_
    refine J_getS (r := 30) fl_RX3_74 rfl (Or.inl rfl) rfl dX3_endOf_27 ?_
    refine J_iload_n rfl dX3_endOf_30 ?_
    refine J_iaload (Or.inl rfl) K.1 dX3_endOf_31 ?_
    replace K := K.2
    refine J_b0 (J_callS (b1 := 0) (vs := [vI (gi h 30 y3)]) (rest := []) (Or.inl rfl) ml_RX3_77 rfl (by decide) (Nat.le_of_ble_eq_true rfl) rfl dX3_endOf_32 (c_X3_isLetter   ?_))
    show J _ _ _ _ _ _ _ [vI (b2i (97 ≤ (gi h 30 y3) ∧ (gi h 30 y3) ≤ 122))] _
    refine J_if_eq (tgt := 77) dX3_endOf_35 (by decide) (fun c => ?_) (fun c => ?_)
    · replace K := K.2 (b2i_0.mp c)
      refine J_iload_n rfl dX3_endOf_77 ?_
      exact J_ireturn rfl dX3_endOf_78 K
    · replace K := K.1 (b2i_n0.mp c)
      refine J_iinc (loc' := [some (vR (some 29)), none, none, some (vI (y3 + 1))]) (by decide) rfl K.1 rfl dX3_endOf_38 ?_
      replace K := K.2
      refine J_goto (tgt := 18) dX3_endOf_41 (by decide) ?_
      exact J_forget (loc' := [some (vR (some 29)), none, none, some (vI (y3 + 1))]) (And.intro (Or.inr rfl) (And.intro (Or.inl rfl) (And.intro (Or.inl rfl) (And.intro (Or.inr rfl) True.intro)))) K
set_option maxRecDepth 20000 in
set_option maxHeartbeats 2000000 in
theorem w_X3_endOf {d b : Nat} {Q : Option AV → AH → Prop} {h : AH} {x2 : Int}  (K : (0 ≤ x2 ∧ x2 < 400) ∧ R32 (x2 + 1) ∧ (97 ≤ (gi h 30 x2) ∧ (gi h 30 x2) ≤ 122 → Lp_X3_endOf_18 d b Q (x2 + 1) h) ∧ (¬(97 ≤ (gi h 30 x2) ∧ (gi h 30 x2) ≤ 122) → (48 ≤ (gi h 30 x2) ∧ (gi h 30 x2) ≤ 57 → Lp_X3_endOf_51 d b Q (x2 + 1) h) ∧ (¬(48 ≤ (gi h 30 x2) ∧ (gi h 30 x2) ≤ 57) → Q (some (vI (x2 + 1))) h))) : WM GX (d + 1) b mX3_endOf [vR (some 29), vI x2] h Q := by
  refine WM_introE (loc' := [some (vR (some 29)), some (vI x2), none, none]) rfl (by decide) (Nat.le_of_ble_eq_true rfl) ?_
  refine J_aload_n rfl dX3_endOf_0 ?_
  refine J_getS (r := 30) fl_RX3_74 rfl (Or.inl rfl) rfl dX3_endOf_1 ?_
  refine J_iload_n rfl dX3_endOf_4 ?_
  refine J_iaload (Or.inl rfl) K.1 dX3_endOf_5 ?_
  replace K := K.2
  refine J_istore_n (loc' := [some (vR (some 29)), some (vI x2), some (vI (gi h 30 x2)), none]) (by decide) rfl dX3_endOf_6 ?_
  refine J_iload_n rfl dX3_endOf_7 ?_
  refine J_iconst (by decide) dX3_endOf_8 ?_
  refine J_iadd K.1 dX3_endOf_9 ?_
  replace K := K.2
  refine J_istore_n (loc' := [some (vR (some 29)), some (vI x2), some (vI (gi h 30 x2)), some (vI (x2 + 1))]) (by decide) rfl dX3_endOf_10 ?_
  refine J_iload_n rfl dX3_endOf_11 ?_
  refine J_b0 (J_callS (b1 := 0) (vs := [vI (gi h 30 x2)]) (rest := []) (Or.inl rfl) ml_RX3_77 rfl (by decide) (Nat.le_of_ble_eq_true rfl) rfl dX3_endOf_12 (c_X3_isLetter   ?_))
  show J _ _ _ _ _ _ _ [vI (b2i (97 ≤ (gi h 30 x2) ∧ (gi h 30 x2) ≤ 122))] _
  refine J_if_eq (tgt := 44) dX3_endOf_15 (by decide) (fun c => ?_) (fun c => ?_)
  · replace K := K.2 (b2i_0.mp c)
    refine J_iload_n rfl dX3_endOf_44 ?_
    refine J_b0 (J_callS (b1 := 0) (vs := [vI (gi h 30 x2)]) (rest := []) (Or.inl rfl) ml_RX3_89 rfl (by decide) (Nat.le_of_ble_eq_true rfl) rfl dX3_endOf_45 (c_X3_isDigit   ?_))
    show J _ _ _ _ _ _ _ [vI (b2i (48 ≤ (gi h 30 x2) ∧ (gi h 30 x2) ≤ 57))] _
    refine J_if_eq (tgt := 77) dX3_endOf_48 (by decide) (fun c => ?_) (fun c => ?_)
    · replace K := K.2 (b2i_0.mp c)
      refine J_iload_n rfl dX3_endOf_77 ?_
      exact J_ireturn rfl dX3_endOf_78 K
    · replace K := K.1 (b2i_n0.mp c)
      exact J_forget (loc' := [some (vR (some 29)), none, none, some (vI (x2 + 1))]) (And.intro (Or.inr rfl) (And.intro (Or.inl rfl) (And.intro (Or.inl rfl) (And.intro (Or.inr rfl) True.intro)))) K
  · replace K := K.1 (b2i_n0.mp c)
    exact J_forget (loc' := [some (vR (some 29)), none, none, some (vI (x2 + 1))]) (And.intro (Or.inr rfl) (And.intro (Or.inl rfl) (And.intro (Or.inl rfl) (And.intro (Or.inr rfl) True.intro)))) K
def Lp_X3_numberIn_5 (d b : Nat) (Q : Option AV → AH → Prop)  (y2 : Int) (y3 : Int) (y4 : Int) (h : AH) : Prop := J GX (d + 1) b mX3_numberIn Q 5 [some (vR (some 29)), none, some (vI y2), some (vI y3), some (vI y4)] [] h
set_option maxRecDepth 20000 in
set_option maxHeartbeats 2000000 in
theorem l_X3_numberIn_5 {d b : Nat} {Q : Option AV → AH → Prop} {h : AH}  {y2 : Int} {y3 : Int} {y4 : Int}  (K : (y2 ≤ y4 → Q (some (vI y3)) h) ∧ (¬(y2 ≤ y4) → R32 (y3 * 10) ∧ (0 ≤ y4 ∧ y4 < 400) ∧ R32 ((y3 * 10) + (gi h 30 y4)) ∧ R32 (((y3 * 10) + (gi h 30 y4)) - 48) ∧ R32 (y4 + 1) ∧ Lp_X3_numberIn_5 d b Q y2 (min (((y3 * 10) + (gi h 30 y4)) - 48) 1000000) (y4 + 1) h)) : Lp_X3_numberIn_5 d b Q y2 y3 y4 h := by
  unfold Lp_X3_numberIn_5
  refine J_iload rfl dX3_numberIn_5 ?_
  refine J_iload_n rfl dX3_numberIn_7 ?_
  refine J_icmp_ge (tgt := 38) dX3_numberIn_8 (by decide) (fun c => ?_) (fun c => ?_)
  · replace K := K.1 c
    refine J_iload_n rfl dX3_numberIn_38 ?_
    exact J_ireturn rfl dX3_numberIn_39 K
  · replace K := K.2 c
    refine J_iload_n rfl dX3_numberIn_11 ?_
    refine J_bipush (by decide) (by decide) dX3_numberIn_12 ?_
    refine J_imul K.1 dX3_numberIn_14 ?_
    replace K := K.2
    refine J_aload_n rfl dX3_numberIn_15 ?_
    refine J_getS (r := 30) fl_RX3_74 rfl (Or.inl rfl) rfl dX3_numberIn_16 ?_
    refine J_iload rfl dX3_numberIn_19 ?_
    refine J_iaload (Or.inl rfl) K.1 dX3_numberIn_21 ?_
    replace K := K.2
    refine J_iadd K.1 dX3_numberIn_22 ?_
    replace K := K.2
    refine J_bipush (by decide) (by decide) dX3_numberIn_23 ?_
    refine J_isub K.1 dX3_numberIn_25 ?_
    replace K := K.2
    refine J_ldc (n := 1000000) (by decide) (by decide) kc_RX3_95 dX3_numberIn_26 ?_
    refine J_mmin ml_RX3_96 (Nat.le_of_ble_eq_true rfl) dX3_numberIn_28 ?_
    refine J_istore_n (loc' := [some (vR (some 29)), none, some (vI y2), some (vI (min (((y3 * 10) + (gi h 30 y4)) - 48) 1000000)), some (vI y4)]) (by decide) rfl dX3_numberIn_31 ?_
    refine J_iinc (loc' := [some (vR (some 29)), none, some (vI y2), some (vI (min (((y3 * 10) + (gi h 30 y4)) - 48) 1000000)), some (vI (y4 + 1))]) (by decide) rfl K.1 rfl dX3_numberIn_32 ?_
    replace K := K.2
    refine J_goto (tgt := 5) dX3_numberIn_35 (by decide) ?_
    exact J_forget (loc' := [some (vR (some 29)), none, some (vI y2), some (vI (min (((y3 * 10) + (gi h 30 y4)) - 48) 1000000)), some (vI (y4 + 1))]) (And.intro (Or.inr rfl) (And.intro (Or.inl rfl) (And.intro (Or.inr rfl) (And.intro (Or.inr rfl) (And.intro (Or.inr rfl) True.intro))))) K
set_option maxRecDepth 20000 in
set_option maxHeartbeats 2000000 in
theorem w_X3_numberIn {d b : Nat} {Q : Option AV → AH → Prop} {h : AH} {x2 : Int} {x3 : Int}  (K : Lp_X3_numberIn_5 d b Q x3 0 x2 h) : WM GX (d + 1) b mX3_numberIn [vR (some 29), vI x2, vI x3] h Q := by
  refine WM_introE (loc' := [some (vR (some 29)), some (vI x2), some (vI x3), none, none]) rfl (by decide) (Nat.le_of_ble_eq_true rfl) ?_
  refine J_iconst (by decide) dX3_numberIn_0 ?_
  refine J_istore_n (loc' := [some (vR (some 29)), some (vI x2), some (vI x3), some (vI 0), none]) (by decide) rfl dX3_numberIn_1 ?_
  refine J_iload_n rfl dX3_numberIn_2 ?_
  refine J_istore (loc' := [some (vR (some 29)), some (vI x2), some (vI x3), some (vI 0), some (vI x2)]) (by decide) rfl dX3_numberIn_3 ?_
  exact J_forget (loc' := [some (vR (some 29)), none, some (vI x3), some (vI 0), some (vI x2)]) (And.intro (Or.inr rfl) (And.intro (Or.inl rfl) (And.intro (Or.inr rfl) (And.intro (Or.inr rfl) (And.intro (Or.inr rfl) True.intro))))) K
def Lp_X3_wordIn_11 (d b : Nat) (Q : Option AV → AH → Prop)  (y1 : Int) (y2 : Int) (y3 : Int) (y4 : Int) (y5 : Int) (y6 : Int) (h : AH) : Prop := J GX (d + 10) b mX3_wordIn Q 11 [some (vR (some 29)), some (vI y1), some (vI y2), some (vI y3), some (vI y4), some (vI y5), some (vI y6), none] [] h
def Lp_X3_wordIn_105 (d b : Nat) (Q : Option AV → AH → Prop)  (y1 : Int) (y2 : Int) (y3 : Int) (y4 : Int) (y5 : Int) (y6 : Int) (h : AH) : Prop := J GX (d + 10) b mX3_wordIn Q 105 [some (vR (some 29)), some (vI y1), some (vI y2), some (vI y3), some (vI y4), some (vI y5), some (vI y6), none] [] h
set_option maxRecDepth 20000 in
set_option maxHeartbeats 2000000 in
theorem l_X3_wordIn_11 {d b : Nat} {Q : Option AV → AH → Prop} {h : AH}  {y1 : Int} {y2 : Int} {y3 : Int} {y4 : Int} {y5 : Int} {y6 : Int}  (K : (148 ≤ y6 → Q (some (vI 257)) h) ∧ (¬(148 ≤ y6) → (0 ≤ y6 ∧ y6 < 148) ∧ (wAt y6 = 32 → (y5 = 0 → R32 (y3 + 1) ∧ Lp_X3_wordIn_105 d b Q y1 y2 (y3 + 1) 0 1 y6 h) ∧ (¬(y5 = 0) → R32 (y1 + y4) ∧ (y1 + y4 = y2 → R32 (258 + y3) ∧ Q (some (vI (258 + y3))) h) ∧ (¬(y1 + y4 = y2) → R32 (y3 + 1) ∧ Lp_X3_wordIn_105 d b Q y1 y2 (y3 + 1) 0 1 y6 h))) ∧ (¬(wAt y6 = 32) → (y5 = 0 → R32 (y4 + 1) ∧ Lp_X3_wordIn_105 d b Q y1 y2 y3 (y4 + 1) 0 y6 h) ∧ (¬(y5 = 0) → R32 (y1 + y4) ∧ (y2 ≤ y1 + y4 → R32 (y4 + 1) ∧ Lp_X3_wordIn_105 d b Q y1 y2 y3 (y4 + 1) 0 y6 h) ∧ (¬(y2 ≤ y1 + y4) → R32 (y1 + y4) ∧ (0 ≤ y1 + y4 ∧ y1 + y4 < 400) ∧ (gi h 30 (y1 + y4) = wAt y6 → R32 (y4 + 1) ∧ Lp_X3_wordIn_105 d b Q y1 y2 y3 (y4 + 1) 1 y6 h) ∧ (¬(gi h 30 (y1 + y4) = wAt y6) → R32 (y4 + 1) ∧ Lp_X3_wordIn_105 d b Q y1 y2 y3 (y4 + 1) 0 y6 h)))))) : Lp_X3_wordIn_11 d b Q y1 y2 y3 y4 y5 y6 h := by
  unfold Lp_X3_wordIn_11
  refine J_iload rfl dX3_wordIn_11 ?_
  refine J_ldcS rfl dX3_wordIn_13 ?_
  refine J_strlen rfl (Nat.le_of_ble_eq_true rfl) dX3_wordIn_15 ?_
  refine J_icmp_ge (tgt := 111) dX3_wordIn_18 (by decide) (fun c => ?_) (fun c => ?_)
  · replace K := K.1 c
    refine J_sipush (by decide) (by decide) dX3_wordIn_111 ?_
    exact J_ireturn rfl dX3_wordIn_114 K
  · replace K := K.2 c
    refine J_ldcS rfl dX3_wordIn_21 ?_
    refine J_iload rfl dX3_wordIn_23 ?_
    refine J_strat rfl (Nat.le_of_ble_eq_true rfl) K.1 dX3_wordIn_25 ?_
    replace K := K.2
    refine J_istore (loc' := [some (vR (some 29)), some (vI y1), some (vI y2), some (vI y3), some (vI y4), some (vI y5), some (vI y6), some (vI (wAt y6))]) (by decide) rfl dX3_wordIn_28 ?_
    refine J_iload rfl dX3_wordIn_30 ?_
    refine J_bipush (by decide) (by decide) dX3_wordIn_32 ?_
    refine J_icmp_ne (tgt := 68) dX3_wordIn_34 (by decide) (fun c => ?_) (fun c => ?_)
    · replace K := K.2 c
      refine J_iload rfl dX3_wordIn_68 ?_
      refine J_if_eq (tgt := 99) dX3_wordIn_70 (by decide) (fun c => ?_) (fun c => ?_)
      · replace K := K.1 c
        refine J_iconst (by decide) dX3_wordIn_99 ?_
        refine J_istore (loc' := [some (vR (some 29)), some (vI y1), some (vI y2), some (vI y3), some (vI y4), some (vI 0), some (vI y6), some (vI (wAt y6))]) (by decide) rfl dX3_wordIn_100 ?_
        refine J_iinc (loc' := [some (vR (some 29)), some (vI y1), some (vI y2), some (vI y3), some (vI (y4 + 1)), some (vI 0), some (vI y6), some (vI (wAt y6))]) (by decide) rfl K.1 rfl dX3_wordIn_102 ?_
        replace K := K.2
        exact J_forget (loc' := [some (vR (some 29)), some (vI y1), some (vI y2), some (vI y3), some (vI (y4 + 1)), some (vI 0), some (vI y6), none]) (And.intro (Or.inr rfl) (And.intro (Or.inr rfl) (And.intro (Or.inr rfl) (And.intro (Or.inr rfl) (And.intro (Or.inr rfl) (And.intro (Or.inr rfl) (And.intro (Or.inr rfl) (And.intro (Or.inl rfl) True.intro)))))))) K
      · replace K := K.2 c
        refine J_iload_n rfl dX3_wordIn_73 ?_
        refine J_iload rfl dX3_wordIn_74 ?_
        refine J_iadd K.1 dX3_wordIn_76 ?_
        replace K := K.2
        refine J_iload_n rfl dX3_wordIn_77 ?_
        refine J_icmp_ge (tgt := 99) dX3_wordIn_78 (by decide) (fun c => ?_) (fun c => ?_)
        · replace K := K.1 c
          refine J_iconst (by decide) dX3_wordIn_99 ?_
          refine J_istore (loc' := [some (vR (some 29)), some (vI y1), some (vI y2), some (vI y3), some (vI y4), some (vI 0), some (vI y6), some (vI (wAt y6))]) (by decide) rfl dX3_wordIn_100 ?_
          refine J_iinc (loc' := [some (vR (some 29)), some (vI y1), some (vI y2), some (vI y3), some (vI (y4 + 1)), some (vI 0), some (vI y6), some (vI (wAt y6))]) (by decide) rfl K.1 rfl dX3_wordIn_102 ?_
          replace K := K.2
          exact J_forget (loc' := [some (vR (some 29)), some (vI y1), some (vI y2), some (vI y3), some (vI (y4 + 1)), some (vI 0), some (vI y6), none]) (And.intro (Or.inr rfl) (And.intro (Or.inr rfl) (And.intro (Or.inr rfl) (And.intro (Or.inr rfl) (And.intro (Or.inr rfl) (And.intro (Or.inr rfl) (And.intro (Or.inr rfl) (And.intro (Or.inl rfl) True.intro)))))))) K
        · replace K := K.2 c
          refine J_aload_n rfl dX3_wordIn_81 ?_
          refine J_getS (r := 30) fl_RX3_74 rfl (Or.inl rfl) rfl dX3_wordIn_82 ?_
          refine J_iload_n rfl dX3_wordIn_85 ?_
          refine J_iload rfl dX3_wordIn_86 ?_
          refine J_iadd K.1 dX3_wordIn_88 ?_
          replace K := K.2
          refine J_iaload (Or.inl rfl) K.1 dX3_wordIn_89 ?_
          replace K := K.2
          refine J_iload rfl dX3_wordIn_90 ?_
          refine J_icmp_ne (tgt := 99) dX3_wordIn_92 (by decide) (fun c => ?_) (fun c => ?_)
          · replace K := K.2 c
            refine J_iconst (by decide) dX3_wordIn_99 ?_
            refine J_istore (loc' := [some (vR (some 29)), some (vI y1), some (vI y2), some (vI y3), some (vI y4), some (vI 0), some (vI y6), some (vI (wAt y6))]) (by decide) rfl dX3_wordIn_100 ?_
            refine J_iinc (loc' := [some (vR (some 29)), some (vI y1), some (vI y2), some (vI y3), some (vI (y4 + 1)), some (vI 0), some (vI y6), some (vI (wAt y6))]) (by decide) rfl K.1 rfl dX3_wordIn_102 ?_
            replace K := K.2
            exact J_forget (loc' := [some (vR (some 29)), some (vI y1), some (vI y2), some (vI y3), some (vI (y4 + 1)), some (vI 0), some (vI y6), none]) (And.intro (Or.inr rfl) (And.intro (Or.inr rfl) (And.intro (Or.inr rfl) (And.intro (Or.inr rfl) (And.intro (Or.inr rfl) (And.intro (Or.inr rfl) (And.intro (Or.inr rfl) (And.intro (Or.inl rfl) True.intro)))))))) K
          · replace K := K.1 c
            refine J_iconst (by decide) dX3_wordIn_95 ?_
            refine J_goto (tgt := 100) dX3_wordIn_96 (by decide) ?_
            refine J_istore (loc' := [some (vR (some 29)), some (vI y1), some (vI y2), some (vI y3), some (vI y4), some (vI 1), some (vI y6), some (vI (wAt y6))]) (by decide) rfl dX3_wordIn_100 ?_
            refine J_iinc (loc' := [some (vR (some 29)), some (vI y1), some (vI y2), some (vI y3), some (vI (y4 + 1)), some (vI 1), some (vI y6), some (vI (wAt y6))]) (by decide) rfl K.1 rfl dX3_wordIn_102 ?_
            replace K := K.2
            exact J_forget (loc' := [some (vR (some 29)), some (vI y1), some (vI y2), some (vI y3), some (vI (y4 + 1)), some (vI 1), some (vI y6), none]) (And.intro (Or.inr rfl) (And.intro (Or.inr rfl) (And.intro (Or.inr rfl) (And.intro (Or.inr rfl) (And.intro (Or.inr rfl) (And.intro (Or.inr rfl) (And.intro (Or.inr rfl) (And.intro (Or.inl rfl) True.intro)))))))) K
    · replace K := K.1 c
      refine J_iload rfl dX3_wordIn_37 ?_
      refine J_if_eq (tgt := 56) dX3_wordIn_39 (by decide) (fun c => ?_) (fun c => ?_)
      · replace K := K.1 c
        refine J_iinc (loc' := [some (vR (some 29)), some (vI y1), some (vI y2), some (vI (y3 + 1)), some (vI y4), some (vI y5), some (vI y6), some (vI (wAt y6))]) (by decide) rfl K.1 rfl dX3_wordIn_56 ?_
        replace K := K.2
        refine J_iconst (by decide) dX3_wordIn_59 ?_
        refine J_istore (loc' := [some (vR (some 29)), some (vI y1), some (vI y2), some (vI (y3 + 1)), some (vI 0), some (vI y5), some (vI y6), some (vI (wAt y6))]) (by decide) rfl dX3_wordIn_60 ?_
        refine J_iconst (by decide) dX3_wordIn_62 ?_
        refine J_istore (loc' := [some (vR (some 29)), some (vI y1), some (vI y2), some (vI (y3 + 1)), some (vI 0), some (vI 1), some (vI y6), some (vI (wAt y6))]) (by decide) rfl dX3_wordIn_63 ?_
        refine J_goto (tgt := 105) dX3_wordIn_65 (by decide) ?_
        exact J_forget (loc' := [some (vR (some 29)), some (vI y1), some (vI y2), some (vI (y3 + 1)), some (vI 0), some (vI 1), some (vI y6), none]) (And.intro (Or.inr rfl) (And.intro (Or.inr rfl) (And.intro (Or.inr rfl) (And.intro (Or.inr rfl) (And.intro (Or.inr rfl) (And.intro (Or.inr rfl) (And.intro (Or.inr rfl) (And.intro (Or.inl rfl) True.intro)))))))) K
      · replace K := K.2 c
        refine J_iload_n rfl dX3_wordIn_42 ?_
        refine J_iload rfl dX3_wordIn_43 ?_
        refine J_iadd K.1 dX3_wordIn_45 ?_
        replace K := K.2
        refine J_iload_n rfl dX3_wordIn_46 ?_
        refine J_icmp_ne (tgt := 56) dX3_wordIn_47 (by decide) (fun c => ?_) (fun c => ?_)
        · replace K := K.2 c
          refine J_iinc (loc' := [some (vR (some 29)), some (vI y1), some (vI y2), some (vI (y3 + 1)), some (vI y4), some (vI y5), some (vI y6), some (vI (wAt y6))]) (by decide) rfl K.1 rfl dX3_wordIn_56 ?_
          replace K := K.2
          refine J_iconst (by decide) dX3_wordIn_59 ?_
          refine J_istore (loc' := [some (vR (some 29)), some (vI y1), some (vI y2), some (vI (y3 + 1)), some (vI 0), some (vI y5), some (vI y6), some (vI (wAt y6))]) (by decide) rfl dX3_wordIn_60 ?_
          refine J_iconst (by decide) dX3_wordIn_62 ?_
          refine J_istore (loc' := [some (vR (some 29)), some (vI y1), some (vI y2), some (vI (y3 + 1)), some (vI 0), some (vI 1), some (vI y6), some (vI (wAt y6))]) (by decide) rfl dX3_wordIn_63 ?_
          refine J_goto (tgt := 105) dX3_wordIn_65 (by decide) ?_
          exact J_forget (loc' := [some (vR (some 29)), some (vI y1), some (vI y2), some (vI (y3 + 1)), some (vI 0), some (vI 1), some (vI y6), none]) (And.intro (Or.inr rfl) (And.intro (Or.inr rfl) (And.intro (Or.inr rfl) (And.intro (Or.inr rfl) (And.intro (Or.inr rfl) (And.intro (Or.inr rfl) (And.intro (Or.inr rfl) (And.intro (Or.inl rfl) True.intro)))))))) K
        · replace K := K.1 c
          refine J_sipush (by decide) (by decide) dX3_wordIn_50 ?_
          refine J_iload_n rfl dX3_wordIn_53 ?_
          refine J_iadd K.1 dX3_wordIn_54 ?_
          replace K := K.2
          exact J_ireturn rfl dX3_wordIn_55 K
set_option maxRecDepth 20000 in
set_option maxHeartbeats 2000000 in
theorem l_X3_wordIn_105 {d b : Nat} {Q : Option AV → AH → Prop} {h : AH}  {y1 : Int} {y2 : Int} {y3 : Int} {y4 : Int} {y5 : Int} {y6 : Int}  (K : R32 (y6 + 1) ∧ Lp_X3_wordIn_11 d b Q y1 y2 y3 y4 y5 (y6 + 1) h) : Lp_X3_wordIn_105 d b Q y1 y2 y3 y4 y5 y6 h := by
  unfold Lp_X3_wordIn_105
  refine J_iinc (loc' := [some (vR (some 29)), some (vI y1), some (vI y2), some (vI y3), some (vI y4), some (vI y5), some (vI (y6 + 1)), none]) (by decide) rfl K.1 rfl dX3_wordIn_105 ?_
  replace K := K.2
  refine J_goto (tgt := 11) dX3_wordIn_108 (by decide) ?_
  exact J_forget (loc' := [some (vR (some 29)), some (vI y1), some (vI y2), some (vI y3), some (vI y4), some (vI y5), some (vI (y6 + 1)), none]) (And.intro (Or.inr rfl) (And.intro (Or.inr rfl) (And.intro (Or.inr rfl) (And.intro (Or.inr rfl) (And.intro (Or.inr rfl) (And.intro (Or.inr rfl) (And.intro (Or.inr rfl) (And.intro (Or.inl rfl) True.intro)))))))) K
set_option maxRecDepth 20000 in
set_option maxHeartbeats 2000000 in
theorem w_X3_wordIn {d b : Nat} {Q : Option AV → AH → Prop} {h : AH} {x2 : Int} {x3 : Int}  (K : Lp_X3_wordIn_11 d b Q x2 x3 0 0 1 0 h) : WM GX (d + 10) b mX3_wordIn [vR (some 29), vI x2, vI x3] h Q := by
  refine WM_introE (loc' := [some (vR (some 29)), some (vI x2), some (vI x3), none, none, none, none, none]) rfl (by decide) (Nat.le_of_ble_eq_true rfl) ?_
  refine J_iconst (by decide) dX3_wordIn_0 ?_
  refine J_istore_n (loc' := [some (vR (some 29)), some (vI x2), some (vI x3), some (vI 0), none, none, none, none]) (by decide) rfl dX3_wordIn_1 ?_
  refine J_iconst (by decide) dX3_wordIn_2 ?_
  refine J_istore (loc' := [some (vR (some 29)), some (vI x2), some (vI x3), some (vI 0), some (vI 0), none, none, none]) (by decide) rfl dX3_wordIn_3 ?_
  refine J_iconst (by decide) dX3_wordIn_5 ?_
  refine J_istore (loc' := [some (vR (some 29)), some (vI x2), some (vI x3), some (vI 0), some (vI 0), some (vI 1), none, none]) (by decide) rfl dX3_wordIn_6 ?_
  refine J_iconst (by decide) dX3_wordIn_8 ?_
  refine J_istore (loc' := [some (vR (some 29)), some (vI x2), some (vI x3), some (vI 0), some (vI 0), some (vI 1), some (vI 0), none]) (by decide) rfl dX3_wordIn_9 ?_
  exact J_forget (loc' := [some (vR (some 29)), some (vI x2), some (vI x3), some (vI 0), some (vI 0), some (vI 1), some (vI 0), none]) (And.intro (Or.inr rfl) (And.intro (Or.inr rfl) (And.intro (Or.inr rfl) (And.intro (Or.inr rfl) (And.intro (Or.inr rfl) (And.intro (Or.inr rfl) (And.intro (Or.inr rfl) (And.intro (Or.inl rfl) True.intro)))))))) K
def Lp_X3_split_9 (d b : Nat) (Q : Option AV → AH → Prop)  (y2 : Int) (y3 : Int) (h : AH) : Prop := J GX (d + 11) b mX3_split Q 9 [some (vR (some 31)), some (vR (some 29)), some (vI y2), some (vI y3), none, none] [] h
def Lp_X3_split_104 (d b : Nat) (Q : Option AV → AH → Prop)  (y3 : Int) (y4 : Int) (h : AH) : Prop := J GX (d + 11) b mX3_split Q 104 [some (vR (some 31)), some (vR (some 29)), none, some (vI y3), some (vI y4), none] [] h
set_option maxRecDepth 20000 in
set_option maxHeartbeats 2000000 in
theorem l_X3_split_9 {d b : Nat} {Q : Option AV → AH → Prop} {h : AH}  {y2 : Int} {y3 : Int}  (K : (400 ≤ y3 → WM GX (d + 10) 0 mX3_note [vR (some 31), vI (-1), vI (gi h 29 1), vI 0] h (fun r h1 => r = none ∧ Q none h1)) ∧ (¬(400 ≤ y3) → (gi h 29 1 ≤ y2 → WM GX (d + 10) 0 mX3_note [vR (some 31), vI (-1), vI (gi h 29 1), vI 0] h (fun r h2 => r = none ∧ Q none h2)) ∧ (¬(gi h 29 1 ≤ y2) → WM GX (d + 10) 0 mX3_endOf [vR (some 29), vI y2] h (fun r h3 => ∃ u3, r = some (vI u3) ∧ (0 ≤ y2 ∧ y2 < 400) ∧ (97 ≤ (gi h3 30 y2) ∧ (gi h3 30 y2) ≤ 122 → WM GX (d + 10) 0 mX3_wordIn [vR (some 29), vI y2, vI u3] h3 (fun r h7 => ∃ u7, r = some (vI u7) ∧ WM GX (d + 10) 0 mX3_note [vR (some 31), vI u7, vI y2, vI 0] h7 (fun r h8 => r = none ∧ Lp_X3_split_104 d b Q y3 u3 h8))) ∧ (¬(97 ≤ (gi h3 30 y2) ∧ (gi h3 30 y2) ≤ 122) → (48 ≤ (gi h3 30 y2) ∧ (gi h3 30 y2) ≤ 57 → WM GX (d + 10) 0 mX3_numberIn [vR (some 29), vI y2, vI u3] h3 (fun r h5 => ∃ u5, r = some (vI u5) ∧ WM GX (d + 10) 0 mX3_note [vR (some 31), vI 256, vI y2, vI u5] h5 (fun r h6 => r = none ∧ Lp_X3_split_104 d b Q y3 u3 h6))) ∧ (¬(48 ≤ (gi h3 30 y2) ∧ (gi h3 30 y2) ≤ 57) → (gi h3 30 y2 = 32 → Lp_X3_split_104 d b Q y3 u3 h3) ∧ (¬(gi h3 30 y2 = 32) → WM GX (d + 10) 0 mX3_note [vR (some 31), vI (gi h3 30 y2), vI y2, vI 0] h3 (fun r h4 => r = none ∧ Lp_X3_split_104 d b Q y3 u3 h4)))))))) : Lp_X3_split_9 d b Q y2 y3 h := by
  unfold Lp_X3_split_9
  refine J_iload_n rfl dX3_split_9 ?_
  refine J_sipush (by decide) (by decide) dX3_split_10 ?_
  refine J_icmp_ge (tgt := 113) dX3_split_13 (by decide) (fun c => ?_) (fun c => ?_)
  · replace K := K.1 c
    refine J_aload_n rfl dX3_split_113 ?_
    refine J_iconst (by decide) dX3_split_114 ?_
    refine J_aload_n rfl dX3_split_115 ?_
    refine J_getI fl_RX3_54 rfl (Or.inl rfl) dX3_split_116 ?_
    refine J_iconst (by decide) dX3_split_119 ?_
    refine J_b0 (J_callV (b1 := 0) (ci := 3) (vs := [vI (-1), vI (gi h 29 1), vI 0]) (rest := []) (Or.inl rfl) ml_RX3_85 rfl (by decide) rfl rfl (Or.inl rfl) (Nat.le_of_ble_eq_true rfl) rfl dX3_split_120 (WM_mono K (fun r h1 K => ?_)))
    obtain ⟨rfl, K⟩ := K
    show J _ _ _ _ _ _ _ [] _
    exact J_return rfl dX3_split_123 K
  · replace K := K.2 c
    refine J_iload_n rfl dX3_split_16 ?_
    refine J_aload_n rfl dX3_split_17 ?_
    refine J_getI fl_RX3_54 rfl (Or.inl rfl) dX3_split_18 ?_
    refine J_icmp_ge (tgt := 113) dX3_split_21 (by decide) (fun c => ?_) (fun c => ?_)
    · replace K := K.1 c
      refine J_aload_n rfl dX3_split_113 ?_
      refine J_iconst (by decide) dX3_split_114 ?_
      refine J_aload_n rfl dX3_split_115 ?_
      refine J_getI fl_RX3_54 rfl (Or.inl rfl) dX3_split_116 ?_
      refine J_iconst (by decide) dX3_split_119 ?_
      refine J_b0 (J_callV (b1 := 0) (ci := 3) (vs := [vI (-1), vI (gi h 29 1), vI 0]) (rest := []) (Or.inl rfl) ml_RX3_85 rfl (by decide) rfl rfl (Or.inl rfl) (Nat.le_of_ble_eq_true rfl) rfl dX3_split_120 (WM_mono K (fun r h2 K => ?_)))
      obtain ⟨rfl, K⟩ := K
      show J _ _ _ _ _ _ _ [] _
      exact J_return rfl dX3_split_123 K
    · replace K := K.2 c
      refine J_aload_n rfl dX3_split_24 ?_
      refine J_iload_n rfl dX3_split_25 ?_
      refine J_b0 (J_callS (b1 := 0) (vs := [vR (some 29), vI y2]) (rest := []) (Or.inl rfl) ml_RX3_70 rfl (by decide) (Nat.le_of_ble_eq_true rfl) rfl dX3_split_26 (WM_mono K (fun r h3 K => ?_)))
      obtain ⟨u3, rfl, K⟩ := K
      show J _ _ _ _ _ _ _ [vI u3] _
      refine J_istore (loc' := [some (vR (some 31)), some (vR (some 29)), some (vI y2), some (vI y3), some (vI u3), none]) (by decide) rfl dX3_split_29 ?_
      refine J_aload_n rfl dX3_split_31 ?_
      refine J_getS (r := 30) fl_RX3_74 rfl (Or.inl rfl) rfl dX3_split_32 ?_
      refine J_iload_n rfl dX3_split_35 ?_
      refine J_iaload (Or.inl rfl) K.1 dX3_split_36 ?_
      replace K := K.2
      refine J_istore (loc' := [some (vR (some 31)), some (vR (some 29)), some (vI y2), some (vI y3), some (vI u3), some (vI _)]) (by decide) rfl dX3_split_37 ?_
      refine J_iload rfl dX3_split_39 ?_
      refine J_b0 (J_callS (b1 := 0) (vs := [vI _]) (rest := []) (Or.inl rfl) ml_RX3_77 rfl (by decide) (Nat.le_of_ble_eq_true rfl) rfl dX3_split_41 (c_X3_isLetter   ?_))
      show J _ _ _ _ _ _ _ [vI _] _
      refine J_if_eq (tgt := 63) dX3_split_44 (by decide) (fun c => ?_) (fun c => ?_)
      · replace K := K.2 (b2i_0.mp c)
        refine J_iload rfl dX3_split_63 ?_
        refine J_b0 (J_callS (b1 := 0) (vs := [vI _]) (rest := []) (Or.inl rfl) ml_RX3_89 rfl (by decide) (Nat.le_of_ble_eq_true rfl) rfl dX3_split_65 (c_X3_isDigit   ?_))
        show J _ _ _ _ _ _ _ [vI _] _
        refine J_if_eq (tgt := 89) dX3_split_68 (by decide) (fun c => ?_) (fun c => ?_)
        · replace K := K.2 (b2i_0.mp c)
          refine J_iload rfl dX3_split_89 ?_
          refine J_bipush (by decide) (by decide) dX3_split_91 ?_
          refine J_icmp_eq (tgt := 104) dX3_split_93 (by decide) (fun c => ?_) (fun c => ?_)
          · replace K := K.1 c
            exact J_forget (loc' := [some (vR (some 31)), some (vR (some 29)), none, some (vI y3), some (vI u3), none]) (And.intro (Or.inr rfl) (And.intro (Or.inr rfl) (And.intro (Or.inl rfl) (And.intro (Or.inr rfl) (And.intro (Or.inr rfl) (And.intro (Or.inl rfl) True.intro)))))) K
          · replace K := K.2 c
            refine J_aload_n rfl dX3_split_96 ?_
            refine J_iload rfl dX3_split_97 ?_
            refine J_iload_n rfl dX3_split_99 ?_
            refine J_iconst (by decide) dX3_split_100 ?_
            refine J_b0 (J_callV (b1 := 0) (ci := 3) (vs := [vI _, vI y2, vI 0]) (rest := []) (Or.inl rfl) ml_RX3_85 rfl (by decide) rfl rfl (Or.inl rfl) (Nat.le_of_ble_eq_true rfl) rfl dX3_split_101 (WM_mono K (fun r h4 K => ?_)))
            obtain ⟨rfl, K⟩ := K
            show J _ _ _ _ _ _ _ [] _
            exact J_forget (loc' := [some (vR (some 31)), some (vR (some 29)), none, some (vI y3), some (vI u3), none]) (And.intro (Or.inr rfl) (And.intro (Or.inr rfl) (And.intro (Or.inl rfl) (And.intro (Or.inr rfl) (And.intro (Or.inr rfl) (And.intro (Or.inl rfl) True.intro)))))) K
        · replace K := K.1 (b2i_n0.mp c)
          refine J_aload_n rfl dX3_split_71 ?_
          refine J_sipush (by decide) (by decide) dX3_split_72 ?_
          refine J_iload_n rfl dX3_split_75 ?_
          refine J_aload_n rfl dX3_split_76 ?_
          refine J_iload_n rfl dX3_split_77 ?_
          refine J_iload rfl dX3_split_78 ?_
          refine J_b0 (J_callS (b1 := 0) (vs := [vR (some 29), vI y2, vI u3]) (rest := [vI y2, vI 256, vR (some 31)]) (Or.inl rfl) ml_RX3_92 rfl (by decide) (Nat.le_of_ble_eq_true rfl) rfl dX3_split_80 (WM_mono K (fun r h5 K => ?_)))
          obtain ⟨u5, rfl, K⟩ := K
          show J _ _ _ _ _ _ _ [vI u5, vI y2, vI 256, vR (some 31)] _
          refine J_b0 (J_callV (b1 := 0) (ci := 3) (vs := [vI 256, vI y2, vI u5]) (rest := []) (Or.inl rfl) ml_RX3_85 rfl (by decide) rfl rfl (Or.inl rfl) (Nat.le_of_ble_eq_true rfl) rfl dX3_split_83 (WM_mono K (fun r h6 K => ?_)))
          obtain ⟨rfl, K⟩ := K
          show J _ _ _ _ _ _ _ [] _
          refine J_goto (tgt := 104) dX3_split_86 (by decide) ?_
          exact J_forget (loc' := [some (vR (some 31)), some (vR (some 29)), none, some (vI y3), some (vI u3), none]) (And.intro (Or.inr rfl) (And.intro (Or.inr rfl) (And.intro (Or.inl rfl) (And.intro (Or.inr rfl) (And.intro (Or.inr rfl) (And.intro (Or.inl rfl) True.intro)))))) K
      · replace K := K.1 (b2i_n0.mp c)
        refine J_aload_n rfl dX3_split_47 ?_
        refine J_aload_n rfl dX3_split_48 ?_
        refine J_iload_n rfl dX3_split_49 ?_
        refine J_iload rfl dX3_split_50 ?_
        refine J_b0 (J_callS (b1 := 0) (vs := [vR (some 29), vI y2, vI u3]) (rest := [vR (some 31)]) (Or.inl rfl) ml_RX3_81 rfl (by decide) (Nat.le_of_ble_eq_true rfl) rfl dX3_split_52 (WM_mono K (fun r h7 K => ?_)))
        obtain ⟨u7, rfl, K⟩ := K
        show J _ _ _ _ _ _ _ [vI u7, vR (some 31)] _
        refine J_iload_n rfl dX3_split_55 ?_
        refine J_iconst (by decide) dX3_split_56 ?_
        refine J_b0 (J_callV (b1 := 0) (ci := 3) (vs := [vI u7, vI y2, vI 0]) (rest := []) (Or.inl rfl) ml_RX3_85 rfl (by decide) rfl rfl (Or.inl rfl) (Nat.le_of_ble_eq_true rfl) rfl dX3_split_57 (WM_mono K (fun r h8 K => ?_)))
        obtain ⟨rfl, K⟩ := K
        show J _ _ _ _ _ _ _ [] _
        refine J_goto (tgt := 104) dX3_split_60 (by decide) ?_
        exact J_forget (loc' := [some (vR (some 31)), some (vR (some 29)), none, some (vI y3), some (vI u3), none]) (And.intro (Or.inr rfl) (And.intro (Or.inr rfl) (And.intro (Or.inl rfl) (And.intro (Or.inr rfl) (And.intro (Or.inr rfl) (And.intro (Or.inl rfl) True.intro)))))) K
set_option maxRecDepth 20000 in
set_option maxHeartbeats 2000000 in
theorem l_X3_split_104 {d b : Nat} {Q : Option AV → AH → Prop} {h : AH}  {y3 : Int} {y4 : Int}  (K : R32 (y3 + 1) ∧ Lp_X3_split_9 d b Q y4 (y3 + 1) h) : Lp_X3_split_104 d b Q y3 y4 h := by
  unfold Lp_X3_split_104
  refine J_iload rfl dX3_split_104 ?_
  refine J_istore_n (loc' := [some (vR (some 31)), some (vR (some 29)), some (vI y4), some (vI y3), some (vI y4), none]) (by decide) rfl dX3_split_106 ?_
  refine J_iinc (loc' := [some (vR (some 31)), some (vR (some 29)), some (vI y4), some (vI (y3 + 1)), some (vI y4), none]) (by decide) rfl K.1 rfl dX3_split_107 ?_
  replace K := K.2
  refine J_goto (tgt := 9) dX3_split_110 (by decide) ?_
  exact J_forget (loc' := [some (vR (some 31)), some (vR (some 29)), some (vI y4), some (vI (y3 + 1)), none, none]) (And.intro (Or.inr rfl) (And.intro (Or.inr rfl) (And.intro (Or.inr rfl) (And.intro (Or.inr rfl) (And.intro (Or.inl rfl) (And.intro (Or.inl rfl) True.intro)))))) K
set_option maxRecDepth 20000 in
set_option maxHeartbeats 2000000 in
theorem w_X3_split {d b : Nat} {Q : Option AV → AH → Prop} {h : AH}   (K : ∀ h1, h1 = si h 31 3 0 → Lp_X3_split_9 d b Q 0 0 h1) : WM GX (d + 11) b mX3_split [vR (some 31), vR (some 29)] h Q := by
  refine WM_introE (loc' := [some (vR (some 31)), some (vR (some 29)), none, none, none, none]) rfl (by decide) (Nat.le_of_ble_eq_true rfl) ?_
  refine J_aload_n rfl dX3_split_0 ?_
  refine J_iconst (by decide) dX3_split_1 ?_
  refine J_putI fl_RX3_21 rfl (Or.inl rfl) dX3_split_2 ?_
  replace K := K _ rfl
  refine J_iconst (by decide) dX3_split_5 ?_
  refine J_istore_n (loc' := [some (vR (some 31)), some (vR (some 29)), some (vI 0), none, none, none]) (by decide) rfl dX3_split_6 ?_
  refine J_iconst (by decide) dX3_split_7 ?_
  refine J_istore_n (loc' := [some (vR (some 31)), some (vR (some 29)), some (vI 0), some (vI 0), none, none]) (by decide) rfl dX3_split_8 ?_
  exact J_forget (loc' := [some (vR (some 31)), some (vR (some 29)), some (vI 0), some (vI 0), none, none]) (And.intro (Or.inr rfl) (And.intro (Or.inr rfl) (And.intro (Or.inr rfl) (And.intro (Or.inr rfl) (And.intro (Or.inl rfl) (And.intro (Or.inl rfl) True.intro)))))) K
set_option maxRecDepth 20000 in
set_option maxHeartbeats 2000000 in
theorem w_X5_begin {d b : Nat} {Q : Option AV → AH → Prop} {h : AH} {x1 : Int}  (K : R32 ((gi h 35 0) + 1) ∧ ∀ h1, h1 = si h 35 0 ((gi h 35 0) + 1) → (0 ≤ gi h1 35 0 ∧ gi h1 35 0 ≤ 20 ∧ (0 : Int) ≤ 0 ∧ (0 : Int) ≤ 4) ∧ ∀ h2, h2 = telX h1 0 x1 → (0 ≤ gi h2 35 0 ∧ gi h2 35 0 ≤ 20 ∧ (0 : Int) ≤ 1 ∧ (1 : Int) ≤ 4) ∧ ∀ h3, h3 = telX h2 1 (-1) → (0 ≤ gi h3 35 0 ∧ gi h3 35 0 ≤ 20 ∧ (0 : Int) ≤ 2 ∧ (2 : Int) ≤ 4) ∧ ∀ h4, h4 = telX h3 2 (-1) → (0 ≤ gi h4 35 0 ∧ gi h4 35 0 ≤ 20 ∧ (0 : Int) ≤ 3 ∧ (3 : Int) ≤ 4) ∧ ∀ h5, h5 = telX h4 3 1 → (0 ≤ gi h5 35 0 ∧ gi h5 35 0 ≤ 20 ∧ (0 : Int) ≤ 4 ∧ (4 : Int) ≤ 4) ∧ ∀ h6, h6 = telX h5 4 (-1) → Q none h6) : WM GX (d + 1) b mX5_begin [vR (some 35), vI x1] h Q := by
  refine WM_introE (loc' := [some (vR (some 35)), some (vI x1)]) rfl (by decide) (Nat.le_of_ble_eq_true rfl) ?_
  refine J_aload_n rfl dX5_begin_0 ?_
  refine J_dup rfl dX5_begin_1 ?_
  refine J_getI fl_RX5_9 rfl (Or.inl rfl) dX5_begin_2 ?_
  refine J_iconst (by decide) dX5_begin_5 ?_
  refine J_iadd K.1 dX5_begin_6 ?_
  replace K := K.2
  refine J_putI fl_RX5_9 rfl (Or.inl rfl) dX5_begin_7 ?_
  replace K := K _ rfl
  refine J_aload_n rfl dX5_begin_10 ?_
  refine J_iconst (by decide) dX5_begin_11 ?_
  refine J_iload_n rfl dX5_begin_12 ?_
  refine J_b0 (J_callV (b1 := 0) (ci := 5) (vs := [vI 0, vI x1]) (rest := []) (Or.inl rfl) ml_RX5_34 rfl (by decide) rfl rfl (Or.inl rfl) (Nat.le_of_ble_eq_true rfl) rfl dX5_begin_13 (c_X5_tell  K.1 ?_))
  replace K := K.2
  replace K := K _ rfl
  show J _ _ _ _ _ _ _ [] _
  refine J_aload_n rfl dX5_begin_16 ?_
  refine J_iconst (by decide) dX5_begin_17 ?_
  refine J_iconst (by decide) dX5_begin_18 ?_
  refine J_b0 (J_callV (b1 := 0) (ci := 5) (vs := [vI 1, vI (-1)]) (rest := []) (Or.inl rfl) ml_RX5_34 rfl (by decide) rfl rfl (Or.inl rfl) (Nat.le_of_ble_eq_true rfl) rfl dX5_begin_19 (c_X5_tell  K.1 ?_))
  replace K := K.2
  replace K := K _ rfl
  show J _ _ _ _ _ _ _ [] _
  refine J_aload_n rfl dX5_begin_22 ?_
  refine J_iconst (by decide) dX5_begin_23 ?_
  refine J_iconst (by decide) dX5_begin_24 ?_
  refine J_b0 (J_callV (b1 := 0) (ci := 5) (vs := [vI 2, vI (-1)]) (rest := []) (Or.inl rfl) ml_RX5_34 rfl (by decide) rfl rfl (Or.inl rfl) (Nat.le_of_ble_eq_true rfl) rfl dX5_begin_25 (c_X5_tell  K.1 ?_))
  replace K := K.2
  replace K := K _ rfl
  show J _ _ _ _ _ _ _ [] _
  refine J_aload_n rfl dX5_begin_28 ?_
  refine J_iconst (by decide) dX5_begin_29 ?_
  refine J_iconst (by decide) dX5_begin_30 ?_
  refine J_b0 (J_callV (b1 := 0) (ci := 5) (vs := [vI 3, vI 1]) (rest := []) (Or.inl rfl) ml_RX5_34 rfl (by decide) rfl rfl (Or.inl rfl) (Nat.le_of_ble_eq_true rfl) rfl dX5_begin_31 (c_X5_tell  K.1 ?_))
  replace K := K.2
  replace K := K _ rfl
  show J _ _ _ _ _ _ _ [] _
  refine J_aload_n rfl dX5_begin_34 ?_
  refine J_iconst (by decide) dX5_begin_35 ?_
  refine J_iconst (by decide) dX5_begin_36 ?_
  refine J_b0 (J_callV (b1 := 0) (ci := 5) (vs := [vI 4, vI (-1)]) (rest := []) (Or.inl rfl) ml_RX5_34 rfl (by decide) rfl rfl (Or.inl rfl) (Nat.le_of_ble_eq_true rfl) rfl dX5_begin_37 (c_X5_tell  K.1 ?_))
  replace K := K.2
  replace K := K _ rfl
  show J _ _ _ _ _ _ _ [] _
  exact J_return rfl dX5_begin_40 K
set_option maxRecDepth 20000 in
set_option maxHeartbeats 2000000 in
theorem w_X3_sumOf {d b : Nat} {Q : Option AV → AH → Prop} {h : AH} {x1 : Int}  (K : (0 ≤ gi h 35 0 ∧ gi h 35 0 ≤ 20 ∧ (0 : Int) ≤ x1 ∧ (x1 : Int) ≤ 4) ∧ ∀ h1, h1 = telX h x1 (gi h 35 2) → WM GX (d + 1) 0 mX3_sum [vR (some 31), vI 0] h1 (fun r h2 => ∃ u1, r = some (vI u1) ∧ (0 ≤ gi h2 35 2 ∧ gi h2 35 2 ≤ 872) ∧ ∀ h3, h3 = addX h2 0 0 → (u1 = 0 ∨ u1 = 1) ∧ Q (some (vI u1)) h3)) : WM GX (d + 2) b mX3_sumOf [vR (some 31), vI x1] h Q := by
  refine WM_introE (loc' := [some (vR (some 31)), some (vI x1), none]) rfl (by decide) (Nat.le_of_ble_eq_true rfl) ?_
  refine J_aload_n rfl dX3_sumOf_0 ?_
  refine J_getS (r := 35) fl_RX3_46 rfl (Or.inl rfl) rfl dX3_sumOf_1 ?_
  refine J_iload_n rfl dX3_sumOf_4 ?_
  refine J_aload_n rfl dX3_sumOf_5 ?_
  refine J_getS (r := 35) fl_RX3_46 rfl (Or.inl rfl) rfl dX3_sumOf_6 ?_
  refine J_getI fl_RX3_62 rfl (Or.inl rfl) dX3_sumOf_9 ?_
  refine J_b0 (J_callV (b1 := 0) (ci := 5) (vs := [vI x1, vI (gi h 35 2)]) (rest := []) (Or.inr rfl) ml_RX3_130 rfl (by decide) rfl rfl (Or.inl rfl) (Nat.le_of_ble_eq_true rfl) rfl dX3_sumOf_12 (c_X5_tell  K.1 ?_))
  replace K := K.2
  replace K := K _ rfl
  show J _ _ _ _ _ _ _ [] _
  refine J_aload_n rfl dX3_sumOf_15 ?_
  refine J_iconst (by decide) dX3_sumOf_16 ?_
  refine J_b0 (J_callV (b1 := 0) (ci := 3) (vs := [vI 0]) (rest := []) (Or.inl rfl) ml_RX3_140 rfl (by decide) rfl rfl (Or.inl rfl) (Nat.le_of_ble_eq_true rfl) rfl dX3_sumOf_17 (WM_mono K (fun r h2 K => ?_)))
  obtain ⟨u1, rfl, K⟩ := K
  show J _ _ _ _ _ _ _ [vI u1] _
  refine J_istore_n (loc' := [some (vR (some 31)), some (vI x1), some (vI u1)]) (by decide) rfl dX3_sumOf_20 ?_
  refine J_aload_n rfl dX3_sumOf_21 ?_
  refine J_getS (r := 35) fl_RX3_46 rfl (Or.inl rfl) rfl dX3_sumOf_22 ?_
  refine J_iconst (by decide) dX3_sumOf_25 ?_
  refine J_iconst (by decide) dX3_sumOf_26 ?_
  refine J_b0 (J_callV (b1 := 0) (ci := 5) (vs := [vI 0, vI 0]) (rest := []) (Or.inr rfl) ml_RX3_137 rfl (by decide) rfl rfl (Or.inl rfl) (Nat.le_of_ble_eq_true rfl) rfl dX3_sumOf_27 (c_X5_add  K.1 ?_))
  replace K := K.2
  replace K := K _ rfl
  show J _ _ _ _ _ _ _ [] _
  refine J_iload_n rfl dX3_sumOf_30 ?_
  exact J_zreturn ⟨rfl, K.1⟩ dX3_sumOf_31 K.2
def Lp_X3_clause_33 (d b : Nat) (Q : Option AV → AH → Prop)  (y1 : Int) (h : AH) : Prop := J GX (d + 3) b mX3_clause Q 33 [some (vR (some 31)), some (vI y1), none, none] [] h
def Lp_X3_clause_52 (d b : Nat) (Q : Option AV → AH → Prop)  (y1 : Int) (h : AH) : Prop := J GX (d + 3) b mX3_clause Q 52 [some (vR (some 31)), some (vI y1), none, none] [] h
def Lp_X3_clause_87 (d b : Nat) (Q : Option AV → AH → Prop)  (y1 : Int) (y2 : Int) (h : AH) : Prop := J GX (d + 3) b mX3_clause Q 87 [some (vR (some 31)), some (vI y1), some (vI y2), none] [] h
def Lp_X3_clause_101 (d b : Nat) (Q : Option AV → AH → Prop)  (y1 : Int) (h : AH) : Prop := J GX (d + 3) b mX3_clause Q 101 [some (vR (some 31)), some (vI y1), none, none] [] h
def Lp_X3_clause_157 (d b : Nat) (Q : Option AV → AH → Prop)   (h : AH) : Prop := J GX (d + 3) b mX3_clause Q 157 [some (vR (some 31)), none, none, none] [] h
def Lp_X3_clause_209 (d b : Nat) (Q : Option AV → AH → Prop)   (h : AH) : Prop := J GX (d + 3) b mX3_clause Q 209 [some (vR (some 31)), none, none, none] [] h
set_option maxRecDepth 20000 in
set_option maxHeartbeats 2000000 in
theorem l_X3_clause_33 {d b : Nat} {Q : Option AV → AH → Prop} {h : AH}  {y1 : Int}  (K : (y1 = (-1) → Q (some (vI 0)) h) ∧ (¬(y1 = (-1)) → (0 ≤ gi h 31 4 ∧ gi h 31 4 ≤ 400 ∧ gi h 31 3 ≤ 401) ∧ ∀ h1, h1 = advX h → WM GX (d + 2) 0 mX5_begin [vR (some 35), vI y1] h1 (fun r h2 => r = none ∧ Lp_X3_clause_52 d b Q y1 h2))) : Lp_X3_clause_33 d b Q y1 h := by
  unfold Lp_X3_clause_33
  refine J_iload_n rfl dX3_clause_33 ?_
  refine J_iconst (by decide) dX3_clause_34 ?_
  refine J_icmp_ne (tgt := 40) dX3_clause_35 (by decide) (fun c => ?_) (fun c => ?_)
  · replace K := K.2 c
    refine J_aload_n rfl dX3_clause_40 ?_
    refine J_b0 (J_callV (b1 := 0) (ci := 3) (vs := []) (rest := []) (Or.inl rfl) ml_RX3_67 rfl (by decide) rfl rfl (Or.inl rfl) (Nat.le_of_ble_eq_true rfl) rfl dX3_clause_41 (c_X3_advance  K.1 ?_))
    replace K := K.2
    replace K := K _ rfl
    show J _ _ _ _ _ _ _ [] _
    refine J_aload_n rfl dX3_clause_44 ?_
    refine J_getS (r := 35) fl_RX3_46 rfl (Or.inl rfl) rfl dX3_clause_45 ?_
    refine J_iload_n rfl dX3_clause_48 ?_
    refine J_b0 (J_callV (b1 := 0) (ci := 5) (vs := [vI y1]) (rest := []) (Or.inr rfl) ml_RX3_120 rfl (by decide) rfl rfl (Or.inl rfl) (Nat.le_of_ble_eq_true rfl) rfl dX3_clause_49 (WM_mono K (fun r h2 K => ?_)))
    obtain ⟨rfl, K⟩ := K
    show J _ _ _ _ _ _ _ [] _
    exact J_forget (loc' := [some (vR (some 31)), some (vI y1), none, none]) (And.intro (Or.inr rfl) (And.intro (Or.inr rfl) (And.intro (Or.inl rfl) (And.intro (Or.inl rfl) True.intro)))) K
  · replace K := K.1 c
    refine J_iconst (by decide) dX3_clause_38 ?_
    exact J_zreturn ⟨rfl, by decide⟩ dX3_clause_39 K
set_option maxRecDepth 20000 in
set_option maxHeartbeats 2000000 in
theorem l_X3_clause_52 {d b : Nat} {Q : Option AV → AH → Prop} {h : AH}  {y1 : Int}  (K : (gi h 31 7 = 0 → (y1 = 0 → Lp_X3_clause_87 d b Q y1 1 h) ∧ (¬(y1 = 0) → (y1 = 1 → Lp_X3_clause_87 d b Q y1 1 h) ∧ (¬(y1 = 1) → Lp_X3_clause_87 d b Q y1 0 h))) ∧ (¬(gi h 31 7 = 0) → (y1 = 4 → Lp_X3_clause_87 d b Q y1 0 h) ∧ (¬(y1 = 4) → Lp_X3_clause_87 d b Q y1 1 h))) : Lp_X3_clause_52 d b Q y1 h := by
  unfold Lp_X3_clause_52
  refine J_aload_n rfl dX3_clause_52 ?_
  refine J_getI fl_RX3_34 rfl (Or.inl rfl) dX3_clause_53 ?_
  refine J_if_eq (tgt := 72) dX3_clause_56 (by decide) (fun c => ?_) (fun c => ?_)
  · replace K := K.1 c
    refine J_iload_n rfl dX3_clause_72 ?_
    refine J_if_eq (tgt := 81) dX3_clause_73 (by decide) (fun c => ?_) (fun c => ?_)
    · replace K := K.1 c
      refine J_iconst (by decide) dX3_clause_81 ?_
      refine J_goto (tgt := 86) dX3_clause_82 (by decide) ?_
      refine J_istore_n (loc' := [some (vR (some 31)), some (vI y1), some (vI 1), none]) (by decide) rfl dX3_clause_86 ?_
      exact J_forget (loc' := [some (vR (some 31)), some (vI y1), some (vI 1), none]) (And.intro (Or.inr rfl) (And.intro (Or.inr rfl) (And.intro (Or.inr rfl) (And.intro (Or.inl rfl) True.intro)))) K
    · replace K := K.2 c
      refine J_iload_n rfl dX3_clause_76 ?_
      refine J_iconst (by decide) dX3_clause_77 ?_
      refine J_icmp_ne (tgt := 85) dX3_clause_78 (by decide) (fun c => ?_) (fun c => ?_)
      · replace K := K.2 c
        refine J_iconst (by decide) dX3_clause_85 ?_
        refine J_istore_n (loc' := [some (vR (some 31)), some (vI y1), some (vI 0), none]) (by decide) rfl dX3_clause_86 ?_
        exact J_forget (loc' := [some (vR (some 31)), some (vI y1), some (vI 0), none]) (And.intro (Or.inr rfl) (And.intro (Or.inr rfl) (And.intro (Or.inr rfl) (And.intro (Or.inl rfl) True.intro)))) K
      · replace K := K.1 c
        refine J_iconst (by decide) dX3_clause_81 ?_
        refine J_goto (tgt := 86) dX3_clause_82 (by decide) ?_
        refine J_istore_n (loc' := [some (vR (some 31)), some (vI y1), some (vI 1), none]) (by decide) rfl dX3_clause_86 ?_
        exact J_forget (loc' := [some (vR (some 31)), some (vI y1), some (vI 1), none]) (And.intro (Or.inr rfl) (And.intro (Or.inr rfl) (And.intro (Or.inr rfl) (And.intro (Or.inl rfl) True.intro)))) K
  · replace K := K.2 c
    refine J_iload_n rfl dX3_clause_59 ?_
    refine J_iconst (by decide) dX3_clause_60 ?_
    refine J_icmp_eq (tgt := 68) dX3_clause_61 (by decide) (fun c => ?_) (fun c => ?_)
    · replace K := K.1 c
      refine J_iconst (by decide) dX3_clause_68 ?_
      refine J_goto (tgt := 86) dX3_clause_69 (by decide) ?_
      refine J_istore_n (loc' := [some (vR (some 31)), some (vI y1), some (vI 0), none]) (by decide) rfl dX3_clause_86 ?_
      exact J_forget (loc' := [some (vR (some 31)), some (vI y1), some (vI 0), none]) (And.intro (Or.inr rfl) (And.intro (Or.inr rfl) (And.intro (Or.inr rfl) (And.intro (Or.inl rfl) True.intro)))) K
    · replace K := K.2 c
      refine J_iconst (by decide) dX3_clause_64 ?_
      refine J_goto (tgt := 86) dX3_clause_65 (by decide) ?_
      refine J_istore_n (loc' := [some (vR (some 31)), some (vI y1), some (vI 1), none]) (by decide) rfl dX3_clause_86 ?_
      exact J_forget (loc' := [some (vR (some 31)), some (vI y1), some (vI 1), none]) (And.intro (Or.inr rfl) (And.intro (Or.inr rfl) (And.intro (Or.inr rfl) (And.intro (Or.inl rfl) True.intro)))) K
set_option maxRecDepth 20000 in
set_option maxHeartbeats 2000000 in
theorem l_X3_clause_87 {d b : Nat} {Q : Option AV → AH → Prop} {h : AH}  {y1 : Int} {y2 : Int}  (K : (y2 = 0 → Lp_X3_clause_101 d b Q y1 h) ∧ (¬(y2 = 0) → WM GX (d + 2) 0 mX3_sumOf [vR (some 31), vI 1] h (fun r h1 => ∃ u2, r = some (vI u2) ∧ (u2 = 0 → Q (some (vI 0)) h1) ∧ (¬(u2 = 0) → Lp_X3_clause_101 d b Q y1 h1)))) : Lp_X3_clause_87 d b Q y1 y2 h := by
  unfold Lp_X3_clause_87
  refine J_iload_n rfl dX3_clause_87 ?_
  refine J_if_eq (tgt := 101) dX3_clause_88 (by decide) (fun c => ?_) (fun c => ?_)
  · replace K := K.1 c
    exact J_forget (loc' := [some (vR (some 31)), some (vI y1), none, none]) (And.intro (Or.inr rfl) (And.intro (Or.inr rfl) (And.intro (Or.inl rfl) (And.intro (Or.inl rfl) True.intro)))) K
  · replace K := K.2 c
    refine J_aload_n rfl dX3_clause_91 ?_
    refine J_iconst (by decide) dX3_clause_92 ?_
    refine J_b0 (J_callV (b1 := 0) (ci := 3) (vs := [vI 1]) (rest := []) (Or.inl rfl) ml_RX3_124 rfl (by decide) rfl rfl (Or.inl rfl) (Nat.le_of_ble_eq_true rfl) rfl dX3_clause_93 (WM_mono K (fun r h1 K => ?_)))
    obtain ⟨u2, rfl, K⟩ := K
    show J _ _ _ _ _ _ _ [vI u2] _
    refine J_if_ne (tgt := 101) dX3_clause_96 (by decide) (fun c => ?_) (fun c => ?_)
    · replace K := K.2 c
      exact J_forget (loc' := [some (vR (some 31)), some (vI y1), none, none]) (And.intro (Or.inr rfl) (And.intro (Or.inr rfl) (And.intro (Or.inl rfl) (And.intro (Or.inl rfl) True.intro)))) K
    · replace K := K.1 c
      refine J_iconst (by decide) dX3_clause_99 ?_
      exact J_zreturn ⟨rfl, by decide⟩ dX3_clause_100 K
set_option maxRecDepth 20000 in
set_option maxHeartbeats 2000000 in
theorem l_X3_clause_101 {d b : Nat} {Q : Option AV → AH → Prop} {h : AH}  {y1 : Int}  (K : (gi h 31 7 = 0 → Lp_X3_clause_157 d b Q  h) ∧ (¬(gi h 31 7 = 0) → (y1 = 1 → R32 ((gi h 31 5) - 258) ∧ (y1 = 1 → ((gi h 31 5) - 258 = 23 → (0 ≤ gi h 31 4 ∧ gi h 31 4 ≤ 400 ∧ gi h 31 3 ≤ 401) ∧ ∀ h3, h3 = advX h → WM GX (d + 2) 0 mX3_sumOf [vR (some 31), vI 2] h3 (fun r h4 => ∃ u4, r = some (vI u4) ∧ (u4 = 0 → Q (some (vI 0)) h4) ∧ (¬(u4 = 0) → Lp_X3_clause_157 d b Q  h4))) ∧ (¬((gi h 31 5) - 258 = 23) → Q (some (vI 0)) h)) ∧ (¬(y1 = 1) → ((gi h 31 5) - 258 = 24 → (0 ≤ gi h 31 4 ∧ gi h 31 4 ≤ 400 ∧ gi h 31 3 ≤ 401) ∧ ∀ h1, h1 = advX h → WM GX (d + 2) 0 mX3_sumOf [vR (some 31), vI 2] h1 (fun r h2 => ∃ u3, r = some (vI u3) ∧ (u3 = 0 → Q (some (vI 0)) h2) ∧ (¬(u3 = 0) → Lp_X3_clause_157 d b Q  h2))) ∧ (¬((gi h 31 5) - 258 = 24) → Q (some (vI 0)) h))) ∧ (¬(y1 = 1) → (y1 = 3 → R32 ((gi h 31 5) - 258) ∧ (y1 = 1 → ((gi h 31 5) - 258 = 23 → (0 ≤ gi h 31 4 ∧ gi h 31 4 ≤ 400 ∧ gi h 31 3 ≤ 401) ∧ ∀ h7, h7 = advX h → WM GX (d + 2) 0 mX3_sumOf [vR (some 31), vI 2] h7 (fun r h8 => ∃ u6, r = some (vI u6) ∧ (u6 = 0 → Q (some (vI 0)) h8) ∧ (¬(u6 = 0) → Lp_X3_clause_157 d b Q  h8))) ∧ (¬((gi h 31 5) - 258 = 23) → Q (some (vI 0)) h)) ∧ (¬(y1 = 1) → ((gi h 31 5) - 258 = 24 → (0 ≤ gi h 31 4 ∧ gi h 31 4 ≤ 400 ∧ gi h 31 3 ≤ 401) ∧ ∀ h5, h5 = advX h → WM GX (d + 2) 0 mX3_sumOf [vR (some 31), vI 2] h5 (fun r h6 => ∃ u5, r = some (vI u5) ∧ (u5 = 0 → Q (some (vI 0)) h6) ∧ (¬(u5 = 0) → Lp_X3_clause_157 d b Q  h6))) ∧ (¬((gi h 31 5) - 258 = 24) → Q (some (vI 0)) h))) ∧ (¬(y1 = 3) → Lp_X3_clause_157 d b Q  h)))) : Lp_X3_clause_101 d b Q y1 h := by
  unfold Lp_X3_clause_101
  refine J_aload_n rfl dX3_clause_101 ?_
  refine J_getI fl_RX3_34 rfl (Or.inl rfl) dX3_clause_102 ?_
  refine J_if_eq (tgt := 157) dX3_clause_105 (by decide) (fun c => ?_) (fun c => ?_)
  · replace K := K.1 c
    exact J_forget (loc' := [some (vR (some 31)), none, none, none]) (And.intro (Or.inr rfl) (And.intro (Or.inl rfl) (And.intro (Or.inl rfl) (And.intro (Or.inl rfl) True.intro)))) K
  · replace K := K.2 c
    refine J_iload_n rfl dX3_clause_108 ?_
    refine J_iconst (by decide) dX3_clause_109 ?_
    refine J_icmp_eq (tgt := 118) dX3_clause_110 (by decide) (fun c => ?_) (fun c => ?_)
    · replace K := K.1 c
      refine J_aload_n rfl dX3_clause_118 ?_
      refine J_getI fl_RX3_28 rfl (Or.inl rfl) dX3_clause_119 ?_
      refine J_sipush (by decide) (by decide) dX3_clause_122 ?_
      refine J_isub K.1 dX3_clause_125 ?_
      replace K := K.2
      refine J_iload_n rfl dX3_clause_126 ?_
      refine J_iconst (by decide) dX3_clause_127 ?_
      refine J_icmp_ne (tgt := 136) dX3_clause_128 (by decide) (fun c => ?_) (fun c => ?_)
      · replace K := K.2 c
        refine J_bipush (by decide) (by decide) dX3_clause_136 ?_
        refine J_icmp_eq (tgt := 143) dX3_clause_138 (by decide) (fun c => ?_) (fun c => ?_)
        · replace K := K.1 c
          refine J_aload_n rfl dX3_clause_143 ?_
          refine J_b0 (J_callV (b1 := 0) (ci := 3) (vs := []) (rest := []) (Or.inl rfl) ml_RX3_67 rfl (by decide) rfl rfl (Or.inl rfl) (Nat.le_of_ble_eq_true rfl) rfl dX3_clause_144 (c_X3_advance  K.1 ?_))
          replace K := K.2
          replace K := K _ rfl
          show J _ _ _ _ _ _ _ [] _
          refine J_aload_n rfl dX3_clause_147 ?_
          refine J_iconst (by decide) dX3_clause_148 ?_
          refine J_b0 (J_callV (b1 := 0) (ci := 3) (vs := [vI 2]) (rest := []) (Or.inl rfl) ml_RX3_124 rfl (by decide) rfl rfl (Or.inl rfl) (Nat.le_of_ble_eq_true rfl) rfl dX3_clause_149 (WM_mono K (fun r h2 K => ?_)))
          obtain ⟨u3, rfl, K⟩ := K
          show J _ _ _ _ _ _ _ [vI u3] _
          refine J_if_ne (tgt := 157) dX3_clause_152 (by decide) (fun c => ?_) (fun c => ?_)
          · replace K := K.2 c
            exact J_forget (loc' := [some (vR (some 31)), none, none, none]) (And.intro (Or.inr rfl) (And.intro (Or.inl rfl) (And.intro (Or.inl rfl) (And.intro (Or.inl rfl) True.intro)))) K
          · replace K := K.1 c
            refine J_iconst (by decide) dX3_clause_155 ?_
            exact J_zreturn ⟨rfl, by decide⟩ dX3_clause_156 K
        · replace K := K.2 c
          refine J_iconst (by decide) dX3_clause_141 ?_
          exact J_zreturn ⟨rfl, by decide⟩ dX3_clause_142 K
      · replace K := K.1 c
        refine J_bipush (by decide) (by decide) dX3_clause_131 ?_
        refine J_goto (tgt := 138) dX3_clause_133 (by decide) ?_
        refine J_icmp_eq (tgt := 143) dX3_clause_138 (by decide) (fun c => ?_) (fun c => ?_)
        · replace K := K.1 c
          refine J_aload_n rfl dX3_clause_143 ?_
          refine J_b0 (J_callV (b1 := 0) (ci := 3) (vs := []) (rest := []) (Or.inl rfl) ml_RX3_67 rfl (by decide) rfl rfl (Or.inl rfl) (Nat.le_of_ble_eq_true rfl) rfl dX3_clause_144 (c_X3_advance  K.1 ?_))
          replace K := K.2
          replace K := K _ rfl
          show J _ _ _ _ _ _ _ [] _
          refine J_aload_n rfl dX3_clause_147 ?_
          refine J_iconst (by decide) dX3_clause_148 ?_
          refine J_b0 (J_callV (b1 := 0) (ci := 3) (vs := [vI 2]) (rest := []) (Or.inl rfl) ml_RX3_124 rfl (by decide) rfl rfl (Or.inl rfl) (Nat.le_of_ble_eq_true rfl) rfl dX3_clause_149 (WM_mono K (fun r h4 K => ?_)))
          obtain ⟨u4, rfl, K⟩ := K
          show J _ _ _ _ _ _ _ [vI u4] _
          refine J_if_ne (tgt := 157) dX3_clause_152 (by decide) (fun c => ?_) (fun c => ?_)
          · replace K := K.2 c
            exact J_forget (loc' := [some (vR (some 31)), none, none, none]) (And.intro (Or.inr rfl) (And.intro (Or.inl rfl) (And.intro (Or.inl rfl) (And.intro (Or.inl rfl) True.intro)))) K
          · replace K := K.1 c
            refine J_iconst (by decide) dX3_clause_155 ?_
            exact J_zreturn ⟨rfl, by decide⟩ dX3_clause_156 K
        · replace K := K.2 c
          refine J_iconst (by decide) dX3_clause_141 ?_
          exact J_zreturn ⟨rfl, by decide⟩ dX3_clause_142 K
    · replace K := K.2 c
      refine J_iload_n rfl dX3_clause_113 ?_
      refine J_iconst (by decide) dX3_clause_114 ?_
      refine J_icmp_ne (tgt := 157) dX3_clause_115 (by decide) (fun c => ?_) (fun c => ?_)
      · replace K := K.2 c
        exact J_forget (loc' := [some (vR (some 31)), none, none, none]) (And.intro (Or.inr rfl) (And.intro (Or.inl rfl) (And.intro (Or.inl rfl) (And.intro (Or.inl rfl) True.intro)))) K
      · replace K := K.1 c
        refine J_aload_n rfl dX3_clause_118 ?_
        refine J_getI fl_RX3_28 rfl (Or.inl rfl) dX3_clause_119 ?_
        refine J_sipush (by decide) (by decide) dX3_clause_122 ?_
        refine J_isub K.1 dX3_clause_125 ?_
        replace K := K.2
        refine J_iload_n rfl dX3_clause_126 ?_
        refine J_iconst (by decide) dX3_clause_127 ?_
        refine J_icmp_ne (tgt := 136) dX3_clause_128 (by decide) (fun c => ?_) (fun c => ?_)
        · replace K := K.2 c
          refine J_bipush (by decide) (by decide) dX3_clause_136 ?_
          refine J_icmp_eq (tgt := 143) dX3_clause_138 (by decide) (fun c => ?_) (fun c => ?_)
          · replace K := K.1 c
            refine J_aload_n rfl dX3_clause_143 ?_
            refine J_b0 (J_callV (b1 := 0) (ci := 3) (vs := []) (rest := []) (Or.inl rfl) ml_RX3_67 rfl (by decide) rfl rfl (Or.inl rfl) (Nat.le_of_ble_eq_true rfl) rfl dX3_clause_144 (c_X3_advance  K.1 ?_))
            replace K := K.2
            replace K := K _ rfl
            show J _ _ _ _ _ _ _ [] _
            refine J_aload_n rfl dX3_clause_147 ?_
            refine J_iconst (by decide) dX3_clause_148 ?_
            refine J_b0 (J_callV (b1 := 0) (ci := 3) (vs := [vI 2]) (rest := []) (Or.inl rfl) ml_RX3_124 rfl (by decide) rfl rfl (Or.inl rfl) (Nat.le_of_ble_eq_true rfl) rfl dX3_clause_149 (WM_mono K (fun r h6 K => ?_)))
            obtain ⟨u5, rfl, K⟩ := K
            show J _ _ _ _ _ _ _ [vI u5] _
            refine J_if_ne (tgt := 157) dX3_clause_152 (by decide) (fun c => ?_) (fun c => ?_)
            · replace K := K.2 c
              exact J_forget (loc' := [some (vR (some 31)), none, none, none]) (And.intro (Or.inr rfl) (And.intro (Or.inl rfl) (And.intro (Or.inl rfl) (And.intro (Or.inl rfl) True.intro)))) K
            · replace K := K.1 c
              refine J_iconst (by decide) dX3_clause_155 ?_
              exact J_zreturn ⟨rfl, by decide⟩ dX3_clause_156 K
          · replace K := K.2 c
            refine J_iconst (by decide) dX3_clause_141 ?_
            exact J_zreturn ⟨rfl, by decide⟩ dX3_clause_142 K
        · replace K := K.1 c
          refine J_bipush (by decide) (by decide) dX3_clause_131 ?_
          refine J_goto (tgt := 138) dX3_clause_133 (by decide) ?_
          refine J_icmp_eq (tgt := 143) dX3_clause_138 (by decide) (fun c => ?_) (fun c => ?_)
          · replace K := K.1 c
            refine J_aload_n rfl dX3_clause_143 ?_
            refine J_b0 (J_callV (b1 := 0) (ci := 3) (vs := []) (rest := []) (Or.inl rfl) ml_RX3_67 rfl (by decide) rfl rfl (Or.inl rfl) (Nat.le_of_ble_eq_true rfl) rfl dX3_clause_144 (c_X3_advance  K.1 ?_))
            replace K := K.2
            replace K := K _ rfl
            show J _ _ _ _ _ _ _ [] _
            refine J_aload_n rfl dX3_clause_147 ?_
            refine J_iconst (by decide) dX3_clause_148 ?_
            refine J_b0 (J_callV (b1 := 0) (ci := 3) (vs := [vI 2]) (rest := []) (Or.inl rfl) ml_RX3_124 rfl (by decide) rfl rfl (Or.inl rfl) (Nat.le_of_ble_eq_true rfl) rfl dX3_clause_149 (WM_mono K (fun r h8 K => ?_)))
            obtain ⟨u6, rfl, K⟩ := K
            show J _ _ _ _ _ _ _ [vI u6] _
            refine J_if_ne (tgt := 157) dX3_clause_152 (by decide) (fun c => ?_) (fun c => ?_)
            · replace K := K.2 c
              exact J_forget (loc' := [some (vR (some 31)), none, none, none]) (And.intro (Or.inr rfl) (And.intro (Or.inl rfl) (And.intro (Or.inl rfl) (And.intro (Or.inl rfl) True.intro)))) K
            · replace K := K.1 c
              refine J_iconst (by decide) dX3_clause_155 ?_
              exact J_zreturn ⟨rfl, by decide⟩ dX3_clause_156 K
          · replace K := K.2 c
            refine J_iconst (by decide) dX3_clause_141 ?_
            exact J_zreturn ⟨rfl, by decide⟩ dX3_clause_142 K
set_option maxRecDepth 20000 in
set_option maxHeartbeats 2000000 in
theorem l_X3_clause_157 {d b : Nat} {Q : Option AV → AH → Prop} {h : AH}    (K : (gi h 31 7 = 0 → Lp_X3_clause_209 d b Q  h) ∧ (¬(gi h 31 7 = 0) → R32 ((gi h 31 5) - 258) ∧ ((gi h 31 5) - 258 = 25 → (0 ≤ gi h 31 4 ∧ gi h 31 4 ≤ 400 ∧ gi h 31 3 ≤ 401) ∧ ∀ h1, h1 = advX h → (0 ≤ gi h1 31 4 ∧ gi h1 31 4 ≤ 400) ∧ (nFrom h1 1 20 = (-1) → Q (some (vI 0)) h1) ∧ (¬(nFrom h1 1 20 = (-1)) → (0 ≤ gi h1 35 0 ∧ gi h1 35 0 ≤ 20 ∧ (0 : Int) ≤ 3 ∧ (3 : Int) ≤ 4) ∧ ∀ h2, h2 = telX h1 3 (nFrom h1 1 20) → (0 ≤ gi h2 31 4 ∧ gi h2 31 4 ≤ 400 ∧ gi h2 31 3 ≤ 401) ∧ ∀ h3, h3 = advX h2 → Lp_X3_clause_209 d b Q  h3)) ∧ (¬((gi h 31 5) - 258 = 25) → Lp_X3_clause_209 d b Q  h))) : Lp_X3_clause_157 d b Q  h := by
  unfold Lp_X3_clause_157
  refine J_aload_n rfl dX3_clause_157 ?_
  refine J_getI fl_RX3_34 rfl (Or.inl rfl) dX3_clause_158 ?_
  refine J_if_eq (tgt := 209) dX3_clause_161 (by decide) (fun c => ?_) (fun c => ?_)
  · replace K := K.1 c
    exact J_forget (loc' := [some (vR (some 31)), none, none, none]) (And.intro (Or.inr rfl) (And.intro (Or.inl rfl) (And.intro (Or.inl rfl) (And.intro (Or.inl rfl) True.intro)))) K
  · replace K := K.2 c
    refine J_aload_n rfl dX3_clause_164 ?_
    refine J_getI fl_RX3_28 rfl (Or.inl rfl) dX3_clause_165 ?_
    refine J_sipush (by decide) (by decide) dX3_clause_168 ?_
    refine J_isub K.1 dX3_clause_171 ?_
    replace K := K.2
    refine J_bipush (by decide) (by decide) dX3_clause_172 ?_
    refine J_icmp_ne (tgt := 209) dX3_clause_174 (by decide) (fun c => ?_) (fun c => ?_)
    · replace K := K.2 c
      exact J_forget (loc' := [some (vR (some 31)), none, none, none]) (And.intro (Or.inr rfl) (And.intro (Or.inl rfl) (And.intro (Or.inl rfl) (And.intro (Or.inl rfl) True.intro)))) K
    · replace K := K.1 c
      refine J_aload_n rfl dX3_clause_177 ?_
      refine J_b0 (J_callV (b1 := 0) (ci := 3) (vs := []) (rest := []) (Or.inl rfl) ml_RX3_67 rfl (by decide) rfl rfl (Or.inl rfl) (Nat.le_of_ble_eq_true rfl) rfl dX3_clause_178 (c_X3_advance  K.1 ?_))
      replace K := K.2
      replace K := K _ rfl
      show J _ _ _ _ _ _ _ [] _
      refine J_aload_n rfl dX3_clause_181 ?_
      refine J_iconst (by decide) dX3_clause_182 ?_
      refine J_bipush (by decide) (by decide) dX3_clause_183 ?_
      refine J_b0 (J_callV (b1 := 0) (ci := 3) (vs := [vI 1, vI 20]) (rest := []) (Or.inl rfl) ml_RX3_127 rfl (by decide) rfl rfl (Or.inl rfl) (Nat.le_of_ble_eq_true rfl) rfl dX3_clause_185 (c_X3_numberFrom  K.1 ?_))
      replace K := K.2
      show J _ _ _ _ _ _ _ [vI _] _
      refine J_istore_n (loc' := [some (vR (some 31)), none, none, some (vI _)]) (by decide) rfl dX3_clause_188 ?_
      refine J_iload_n rfl dX3_clause_189 ?_
      refine J_iconst (by decide) dX3_clause_190 ?_
      refine J_icmp_ne (tgt := 196) dX3_clause_191 (by decide) (fun c => ?_) (fun c => ?_)
      · replace K := K.2 c
        refine J_aload_n rfl dX3_clause_196 ?_
        refine J_getS (r := 35) fl_RX3_46 rfl (Or.inl rfl) rfl dX3_clause_197 ?_
        refine J_iconst (by decide) dX3_clause_200 ?_
        refine J_iload_n rfl dX3_clause_201 ?_
        refine J_b0 (J_callV (b1 := 0) (ci := 5) (vs := [vI 3, vI _]) (rest := []) (Or.inr rfl) ml_RX3_130 rfl (by decide) rfl rfl (Or.inl rfl) (Nat.le_of_ble_eq_true rfl) rfl dX3_clause_202 (c_X5_tell  K.1 ?_))
        replace K := K.2
        replace K := K _ rfl
        show J _ _ _ _ _ _ _ [] _
        refine J_aload_n rfl dX3_clause_205 ?_
        refine J_b0 (J_callV (b1 := 0) (ci := 3) (vs := []) (rest := []) (Or.inl rfl) ml_RX3_67 rfl (by decide) rfl rfl (Or.inl rfl) (Nat.le_of_ble_eq_true rfl) rfl dX3_clause_206 (c_X3_advance  K.1 ?_))
        replace K := K.2
        replace K := K _ rfl
        show J _ _ _ _ _ _ _ [] _
        exact J_forget (loc' := [some (vR (some 31)), none, none, none]) (And.intro (Or.inr rfl) (And.intro (Or.inl rfl) (And.intro (Or.inl rfl) (And.intro (Or.inl rfl) True.intro)))) K
      · replace K := K.1 c
        refine J_iconst (by decide) dX3_clause_194 ?_
        exact J_zreturn ⟨rfl, by decide⟩ dX3_clause_195 K
set_option maxRecDepth 20000 in
set_option maxHeartbeats 2000000 in
theorem l_X3_clause_209 {d b : Nat} {Q : Option AV → AH → Prop} {h : AH}    (K : R32 ((gi h 31 5) - 258) ∧ ((gi h 31 5) - 258 = 26 → (0 ≤ gi h 31 4 ∧ gi h 31 4 ≤ 400 ∧ gi h 31 3 ≤ 401) ∧ ∀ h1, h1 = advX h → (0 ≤ gi h1 35 0 ∧ gi h1 35 0 ≤ 20 ∧ (0 : Int) ≤ 4 ∧ (4 : Int) ≤ 4) ∧ ∀ h2, h2 = telX h1 4 (gi h1 35 2) → WM GX (d + 2) 0 mX3_test [vR (some 31), vI 0] h2 (fun r h3 => ∃ u7, r = some (vI u7) ∧ (0 ≤ gi h3 35 2 ∧ gi h3 35 2 ≤ 872) ∧ ∀ h4, h4 = addX h3 0 0 → (u7 = 0 ∨ u7 = 1) ∧ Q (some (vI u7)) h4)) ∧ (¬((gi h 31 5) - 258 = 26) → Q (some (vI 1)) h)) : Lp_X3_clause_209 d b Q  h := by
  unfold Lp_X3_clause_209
  refine J_aload_n rfl dX3_clause_209 ?_
  refine J_getI fl_RX3_28 rfl (Or.inl rfl) dX3_clause_210 ?_
  refine J_sipush (by decide) (by decide) dX3_clause_213 ?_
  refine J_isub K.1 dX3_clause_216 ?_
  replace K := K.2
  refine J_bipush (by decide) (by decide) dX3_clause_217 ?_
  refine J_icmp_eq (tgt := 224) dX3_clause_219 (by decide) (fun c => ?_) (fun c => ?_)
  · replace K := K.1 c
    refine J_aload_n rfl dX3_clause_224 ?_
    refine J_b0 (J_callV (b1 := 0) (ci := 3) (vs := []) (rest := []) (Or.inl rfl) ml_RX3_67 rfl (by decide) rfl rfl (Or.inl rfl) (Nat.le_of_ble_eq_true rfl) rfl dX3_clause_225 (c_X3_advance  K.1 ?_))
    replace K := K.2
    replace K := K _ rfl
    show J _ _ _ _ _ _ _ [] _
    refine J_aload_n rfl dX3_clause_228 ?_
    refine J_getS (r := 35) fl_RX3_46 rfl (Or.inl rfl) rfl dX3_clause_229 ?_
    refine J_iconst (by decide) dX3_clause_232 ?_
    refine J_aload_n rfl dX3_clause_233 ?_
    refine J_getS (r := 35) fl_RX3_46 rfl (Or.inl rfl) rfl dX3_clause_234 ?_
    refine J_getI fl_RX3_62 rfl (Or.inl rfl) dX3_clause_237 ?_
    refine J_b0 (J_callV (b1 := 0) (ci := 5) (vs := [vI 4, vI _]) (rest := []) (Or.inr rfl) ml_RX3_130 rfl (by decide) rfl rfl (Or.inl rfl) (Nat.le_of_ble_eq_true rfl) rfl dX3_clause_240 (c_X5_tell  K.1 ?_))
    replace K := K.2
    replace K := K _ rfl
    show J _ _ _ _ _ _ _ [] _
    refine J_aload_n rfl dX3_clause_243 ?_
    refine J_iconst (by decide) dX3_clause_244 ?_
    refine J_b0 (J_callV (b1 := 0) (ci := 3) (vs := [vI 0]) (rest := []) (Or.inl rfl) ml_RX3_134 rfl (by decide) rfl rfl (Or.inl rfl) (Nat.le_of_ble_eq_true rfl) rfl dX3_clause_245 (WM_mono K (fun r h3 K => ?_)))
    obtain ⟨u7, rfl, K⟩ := K
    show J _ _ _ _ _ _ _ [vI u7] _
    refine J_istore_n (loc' := [some (vR (some 31)), none, none, some (vI u7)]) (by decide) rfl dX3_clause_248 ?_
    refine J_aload_n rfl dX3_clause_249 ?_
    refine J_getS (r := 35) fl_RX3_46 rfl (Or.inl rfl) rfl dX3_clause_250 ?_
    refine J_iconst (by decide) dX3_clause_253 ?_
    refine J_iconst (by decide) dX3_clause_254 ?_
    refine J_b0 (J_callV (b1 := 0) (ci := 5) (vs := [vI 0, vI 0]) (rest := []) (Or.inr rfl) ml_RX3_137 rfl (by decide) rfl rfl (Or.inl rfl) (Nat.le_of_ble_eq_true rfl) rfl dX3_clause_255 (c_X5_add  K.1 ?_))
    replace K := K.2
    replace K := K _ rfl
    show J _ _ _ _ _ _ _ [] _
    refine J_iload_n rfl dX3_clause_258 ?_
    exact J_zreturn ⟨rfl, K.1⟩ dX3_clause_259 K.2
  · replace K := K.2 c
    refine J_iconst (by decide) dX3_clause_222 ?_
    exact J_zreturn ⟨rfl, by decide⟩ dX3_clause_223 K
set_option maxRecDepth 20000 in
set_option maxHeartbeats 2000000 in
theorem w_X3_clause {d b : Nat} {Q : Option AV → AH → Prop} {h : AH}   (K : (gi h 31 7 = 0 → R32 ((gi h 31 5) - 258) ∧ Lp_X3_clause_33 d b Q (lVerb ((gi h 31 5) - 258)) h) ∧ (¬(gi h 31 7 = 0) → R32 ((gi h 31 5) - 258) ∧ Lp_X3_clause_33 d b Q (oVerb ((gi h 31 5) - 258)) h)) : WM GX (d + 3) b mX3_clause [vR (some 31)] h Q := by
  refine WM_introE (loc' := [some (vR (some 31)), none, none, none]) rfl (by decide) (Nat.le_of_ble_eq_true rfl) ?_
  refine J_aload_n rfl dX3_clause_0 ?_
  refine J_getI fl_RX3_34 rfl (Or.inl rfl) dX3_clause_1 ?_
  refine J_if_eq (tgt := 21) dX3_clause_4 (by decide) (fun c => ?_) (fun c => ?_)
  · replace K := K.1 c
    refine J_aload_n rfl dX3_clause_21 ?_
    refine J_getI fl_RX3_28 rfl (Or.inl rfl) dX3_clause_22 ?_
    refine J_sipush (by decide) (by decide) dX3_clause_25 ?_
    refine J_isub K.1 dX3_clause_28 ?_
    replace K := K.2
    refine J_b0 (J_callS (b1 := 0) (vs := [vI ((gi h 31 5) - 258)]) (rest := []) (Or.inl rfl) ml_RX3_117 rfl (by decide) (Nat.le_of_ble_eq_true rfl) rfl dX3_clause_29 (c_X3_lawVerb   ?_))
    show J _ _ _ _ _ _ _ [vI (lVerb ((gi h 31 5) - 258))] _
    refine J_istore_n (loc' := [some (vR (some 31)), some (vI (lVerb ((gi h 31 5) - 258))), none, none]) (by decide) rfl dX3_clause_32 ?_
    exact J_forget (loc' := [some (vR (some 31)), some (vI (lVerb ((gi h 31 5) - 258))), none, none]) (And.intro (Or.inr rfl) (And.intro (Or.inr rfl) (And.intro (Or.inl rfl) (And.intro (Or.inl rfl) True.intro)))) K
  · replace K := K.2 c
    refine J_aload_n rfl dX3_clause_7 ?_
    refine J_getI fl_RX3_28 rfl (Or.inl rfl) dX3_clause_8 ?_
    refine J_sipush (by decide) (by decide) dX3_clause_11 ?_
    refine J_isub K.1 dX3_clause_14 ?_
    replace K := K.2
    refine J_b0 (J_callS (b1 := 0) (vs := [vI ((gi h 31 5) - 258)]) (rest := []) (Or.inl rfl) ml_RX3_113 rfl (by decide) (Nat.le_of_ble_eq_true rfl) rfl dX3_clause_15 (c_X3_orderVerb   ?_))
    show J _ _ _ _ _ _ _ [vI (oVerb ((gi h 31 5) - 258))] _
    refine J_goto (tgt := 32) dX3_clause_18 (by decide) ?_
    refine J_istore_n (loc' := [some (vR (some 31)), some (vI (oVerb ((gi h 31 5) - 258))), none, none]) (by decide) rfl dX3_clause_32 ?_
    exact J_forget (loc' := [some (vR (some 31)), some (vI (oVerb ((gi h 31 5) - 258))), none, none]) (And.intro (Or.inr rfl) (And.intro (Or.inr rfl) (And.intro (Or.inl rfl) (And.intro (Or.inl rfl) True.intro)))) K
def Lp_X3_reads_59 (d b : Nat) (Q : Option AV → AH → Prop)  (y3 : Int) (y4 : Int) (h : AH) : Prop := J GX (d + 12) b mX3_reads Q 59 [some (vR (some 31)), none, none, some (vI y3), some (vI y4)] [] h
def Lp_X3_reads_109 (d b : Nat) (Q : Option AV → AH → Prop)  (y3 : Int) (h : AH) : Prop := J GX (d + 12) b mX3_reads Q 109 [some (vR (some 31)), none, none, some (vI y3), none] [] h
def Lp_X3_reads_103 (d b : Nat) (Q : Option AV → AH → Prop)  (y3 : Int) (y4 : Int) (h : AH) : Prop := J GX (d + 12) b mX3_reads Q 103 [some (vR (some 31)), none, none, some (vI y3), some (vI y4)] [] h
def Lp_X3_reads_127 (d b : Nat) (Q : Option AV → AH → Prop)  (y3 : Int) (h : AH) : Prop := J GX (d + 12) b mX3_reads Q 127 [some (vR (some 31)), none, none, some (vI y3), none] [] h
set_option maxRecDepth 20000 in
set_option maxHeartbeats 2000000 in
theorem l_X3_reads_59 {d b : Nat} {Q : Option AV → AH → Prop} {h : AH}  {y3 : Int} {y4 : Int}  (K : (12 < y4 → Lp_X3_reads_109 d b Q y3 h) ∧ (¬(12 < y4) → (y3 = 0 → Lp_X3_reads_109 d b Q y3 h) ∧ (¬(y3 = 0) → (gi h 31 5 = 59 → (0 ≤ gi h 31 4 ∧ gi h 31 4 ≤ 400 ∧ gi h 31 3 ≤ 401) ∧ ∀ h1, h1 = advX h → (12 ≤ y4 → Lp_X3_reads_103 d b Q 0 y4 h1) ∧ (¬(12 ≤ y4) → WM GX (d + 11) 0 mX3_clause [vR (some 31)] h1 (fun r h2 => ∃ u3, r = some (vI u3) ∧ (u3 = 0 → Lp_X3_reads_103 d b Q 0 y4 h2) ∧ (¬(u3 = 0) → Lp_X3_reads_103 d b Q 1 y4 h2)))) ∧ (¬(gi h 31 5 = 59) → Lp_X3_reads_109 d b Q y3 h)))) : Lp_X3_reads_59 d b Q y3 y4 h := by
  unfold Lp_X3_reads_59
  refine J_iload rfl dX3_reads_59 ?_
  refine J_bipush (by decide) (by decide) dX3_reads_61 ?_
  refine J_icmp_gt (tgt := 109) dX3_reads_63 (by decide) (fun c => ?_) (fun c => ?_)
  · replace K := K.1 c
    exact J_forget (loc' := [some (vR (some 31)), none, none, some (vI y3), none]) (And.intro (Or.inr rfl) (And.intro (Or.inl rfl) (And.intro (Or.inl rfl) (And.intro (Or.inr rfl) (And.intro (Or.inl rfl) True.intro))))) K
  · replace K := K.2 c
    refine J_iload_n rfl dX3_reads_66 ?_
    refine J_if_eq (tgt := 109) dX3_reads_67 (by decide) (fun c => ?_) (fun c => ?_)
    · replace K := K.1 c
      exact J_forget (loc' := [some (vR (some 31)), none, none, some (vI y3), none]) (And.intro (Or.inr rfl) (And.intro (Or.inl rfl) (And.intro (Or.inl rfl) (And.intro (Or.inr rfl) (And.intro (Or.inl rfl) True.intro))))) K
    · replace K := K.2 c
      refine J_aload_n rfl dX3_reads_70 ?_
      refine J_getI fl_RX3_28 rfl (Or.inl rfl) dX3_reads_71 ?_
      refine J_bipush (by decide) (by decide) dX3_reads_74 ?_
      refine J_icmp_ne (tgt := 109) dX3_reads_76 (by decide) (fun c => ?_) (fun c => ?_)
      · replace K := K.2 c
        exact J_forget (loc' := [some (vR (some 31)), none, none, some (vI y3), none]) (And.intro (Or.inr rfl) (And.intro (Or.inl rfl) (And.intro (Or.inl rfl) (And.intro (Or.inr rfl) (And.intro (Or.inl rfl) True.intro))))) K
      · replace K := K.1 c
        refine J_aload_n rfl dX3_reads_79 ?_
        refine J_b0 (J_callV (b1 := 0) (ci := 3) (vs := []) (rest := []) (Or.inl rfl) ml_RX3_67 rfl (by decide) rfl rfl (Or.inl rfl) (Nat.le_of_ble_eq_true rfl) rfl dX3_reads_80 (c_X3_advance  K.1 ?_))
        replace K := K.2
        replace K := K _ rfl
        show J _ _ _ _ _ _ _ [] _
        refine J_iload rfl dX3_reads_83 ?_
        refine J_bipush (by decide) (by decide) dX3_reads_85 ?_
        refine J_icmp_ge (tgt := 101) dX3_reads_87 (by decide) (fun c => ?_) (fun c => ?_)
        · replace K := K.1 c
          refine J_iconst (by decide) dX3_reads_101 ?_
          refine J_istore_n (loc' := [some (vR (some 31)), none, none, some (vI 0), some (vI y4)]) (by decide) rfl dX3_reads_102 ?_
          exact J_forget (loc' := [some (vR (some 31)), none, none, some (vI 0), some (vI y4)]) (And.intro (Or.inr rfl) (And.intro (Or.inl rfl) (And.intro (Or.inl rfl) (And.intro (Or.inr rfl) (And.intro (Or.inr rfl) True.intro))))) K
        · replace K := K.2 c
          refine J_aload_n rfl dX3_reads_90 ?_
          refine J_b0 (J_callV (b1 := 0) (ci := 3) (vs := []) (rest := []) (Or.inl rfl) ml_RX3_63 rfl (by decide) rfl rfl (Or.inl rfl) (Nat.le_of_ble_eq_true rfl) rfl dX3_reads_91 (WM_mono K (fun r h2 K => ?_)))
          obtain ⟨u3, rfl, K⟩ := K
          show J _ _ _ _ _ _ _ [vI u3] _
          refine J_if_eq (tgt := 101) dX3_reads_94 (by decide) (fun c => ?_) (fun c => ?_)
          · replace K := K.1 c
            refine J_iconst (by decide) dX3_reads_101 ?_
            refine J_istore_n (loc' := [some (vR (some 31)), none, none, some (vI 0), some (vI y4)]) (by decide) rfl dX3_reads_102 ?_
            exact J_forget (loc' := [some (vR (some 31)), none, none, some (vI 0), some (vI y4)]) (And.intro (Or.inr rfl) (And.intro (Or.inl rfl) (And.intro (Or.inl rfl) (And.intro (Or.inr rfl) (And.intro (Or.inr rfl) True.intro))))) K
          · replace K := K.2 c
            refine J_iconst (by decide) dX3_reads_97 ?_
            refine J_goto (tgt := 102) dX3_reads_98 (by decide) ?_
            refine J_istore_n (loc' := [some (vR (some 31)), none, none, some (vI 1), some (vI y4)]) (by decide) rfl dX3_reads_102 ?_
            exact J_forget (loc' := [some (vR (some 31)), none, none, some (vI 1), some (vI y4)]) (And.intro (Or.inr rfl) (And.intro (Or.inl rfl) (And.intro (Or.inl rfl) (And.intro (Or.inr rfl) (And.intro (Or.inr rfl) True.intro))))) K
set_option maxRecDepth 20000 in
set_option maxHeartbeats 2000000 in
theorem l_X3_reads_109 {d b : Nat} {Q : Option AV → AH → Prop} {h : AH}  {y3 : Int}  (K : (y3 = 0 → Lp_X3_reads_127 d b Q 0 h) ∧ (¬(y3 = 0) → (gi h 31 5 = (-1) → Lp_X3_reads_127 d b Q 1 h) ∧ (¬(gi h 31 5 = (-1)) → Lp_X3_reads_127 d b Q 0 h))) : Lp_X3_reads_109 d b Q y3 h := by
  unfold Lp_X3_reads_109
  refine J_iload_n rfl dX3_reads_109 ?_
  refine J_if_eq (tgt := 125) dX3_reads_110 (by decide) (fun c => ?_) (fun c => ?_)
  · replace K := K.1 c
    refine J_iconst (by decide) dX3_reads_125 ?_
    refine J_istore_n (loc' := [some (vR (some 31)), none, none, some (vI 0), none]) (by decide) rfl dX3_reads_126 ?_
    exact J_forget (loc' := [some (vR (some 31)), none, none, some (vI 0), none]) (And.intro (Or.inr rfl) (And.intro (Or.inl rfl) (And.intro (Or.inl rfl) (And.intro (Or.inr rfl) (And.intro (Or.inl rfl) True.intro))))) K
  · replace K := K.2 c
    refine J_aload_n rfl dX3_reads_113 ?_
    refine J_getI fl_RX3_28 rfl (Or.inl rfl) dX3_reads_114 ?_
    refine J_iconst (by decide) dX3_reads_117 ?_
    refine J_icmp_ne (tgt := 125) dX3_reads_118 (by decide) (fun c => ?_) (fun c => ?_)
    · replace K := K.2 c
      refine J_iconst (by decide) dX3_reads_125 ?_
      refine J_istore_n (loc' := [some (vR (some 31)), none, none, some (vI 0), none]) (by decide) rfl dX3_reads_126 ?_
      exact J_forget (loc' := [some (vR (some 31)), none, none, some (vI 0), none]) (And.intro (Or.inr rfl) (And.intro (Or.inl rfl) (And.intro (Or.inl rfl) (And.intro (Or.inr rfl) (And.intro (Or.inl rfl) True.intro))))) K
    · replace K := K.1 c
      refine J_iconst (by decide) dX3_reads_121 ?_
      refine J_goto (tgt := 126) dX3_reads_122 (by decide) ?_
      refine J_istore_n (loc' := [some (vR (some 31)), none, none, some (vI 1), none]) (by decide) rfl dX3_reads_126 ?_
      exact J_forget (loc' := [some (vR (some 31)), none, none, some (vI 1), none]) (And.intro (Or.inr rfl) (And.intro (Or.inl rfl) (And.intro (Or.inl rfl) (And.intro (Or.inr rfl) (And.intro (Or.inl rfl) True.intro))))) K
set_option maxRecDepth 20000 in
set_option maxHeartbeats 2000000 in
theorem l_X3_reads_103 {d b : Nat} {Q : Option AV → AH → Prop} {h : AH}  {y3 : Int} {y4 : Int}  (K : R32 (y4 + 1) ∧ Lp_X3_reads_59 d b Q y3 (y4 + 1) h) : Lp_X3_reads_103 d b Q y3 y4 h := by
  unfold Lp_X3_reads_103
  refine J_iinc (loc' := [some (vR (some 31)), none, none, some (vI y3), some (vI (y4 + 1))]) (by decide) rfl K.1 rfl dX3_reads_103 ?_
  replace K := K.2
  refine J_goto (tgt := 59) dX3_reads_106 (by decide) ?_
  exact J_forget (loc' := [some (vR (some 31)), none, none, some (vI y3), some (vI (y4 + 1))]) (And.intro (Or.inr rfl) (And.intro (Or.inl rfl) (And.intro (Or.inl rfl) (And.intro (Or.inr rfl) (And.intro (Or.inr rfl) True.intro))))) K
set_option maxRecDepth 20000 in
set_option maxHeartbeats 2000000 in
theorem l_X3_reads_127 {d b : Nat} {Q : Option AV → AH → Prop} {h : AH}  {y3 : Int}  (K : (y3 = 0 → (0 ≤ gi h 31 4 ∧ gi h 31 4 < 401) ∧ ∀ h1, h1 = si h 31 8 (gi h 33 (gi h 31 4)) → (y3 = 0 ∨ y3 = 1) ∧ Q (some (vI y3)) h1) ∧ (¬(y3 = 0) → ∀ h2, h2 = si h 31 8 (-1) → (y3 = 0 ∨ y3 = 1) ∧ Q (some (vI y3)) h2)) : Lp_X3_reads_127 d b Q y3 h := by
  unfold Lp_X3_reads_127
  refine J_aload_n rfl dX3_reads_127 ?_
  refine J_iload_n rfl dX3_reads_128 ?_
  refine J_if_eq (tgt := 136) dX3_reads_129 (by decide) (fun c => ?_) (fun c => ?_)
  · replace K := K.1 c
    refine J_aload_n rfl dX3_reads_136 ?_
    refine J_getS (r := 33) fl_RX3_15 rfl (Or.inl rfl) rfl dX3_reads_137 ?_
    refine J_aload_n rfl dX3_reads_140 ?_
    refine J_getI fl_RX3_25 rfl (Or.inl rfl) dX3_reads_141 ?_
    refine J_iaload (Or.inl rfl) K.1 dX3_reads_144 ?_
    replace K := K.2
    refine J_putI fl_RX3_38 rfl (Or.inl rfl) dX3_reads_145 ?_
    replace K := K _ rfl
    refine J_iload_n rfl dX3_reads_148 ?_
    exact J_zreturn ⟨rfl, K.1⟩ dX3_reads_149 K.2
  · replace K := K.2 c
    refine J_iconst (by decide) dX3_reads_132 ?_
    refine J_goto (tgt := 145) dX3_reads_133 (by decide) ?_
    refine J_putI fl_RX3_38 rfl (Or.inl rfl) dX3_reads_145 ?_
    replace K := K _ rfl
    refine J_iload_n rfl dX3_reads_148 ?_
    exact J_zreturn ⟨rfl, K.1⟩ dX3_reads_149 K.2
set_option maxRecDepth 20000 in
set_option maxHeartbeats 2000000 in
theorem w_X3_reads {d b : Nat} {Q : Option AV → AH → Prop} {h : AH} {x2 : Int}  (K : WM GX (d + 11) 0 mX3_split [vR (some 31), vR (some 29)] h (fun r h1 => r = none ∧ ∀ h2, h2 = si h1 29 1 0 → ∀ h3, h3 = si h2 31 4 0 → ∀ h4, h4 = si h3 31 5 (gi h1 32 0) → ∀ h5, h5 = si h4 31 6 0 → (x2 = 0 ∨ x2 = 1) ∧ ∀ h6, h6 = si h5 31 7 x2 → ∀ h7, h7 = si h6 35 0 0 → ∀ h8, h8 = si h7 35 2 0 → WM GX (d + 11) 0 mX3_clause [vR (some 31)] h8 (fun r h9 => ∃ u2, r = some (vI u2) ∧ Lp_X3_reads_59 d b Q u2 1 h9))) : WM GX (d + 12) b mX3_reads [vR (some 31), vR (some 29), vI x2] h Q := by
  refine WM_introE (loc' := [some (vR (some 31)), some (vR (some 29)), some (vI x2), none, none]) rfl (by decide) (Nat.le_of_ble_eq_true rfl) ?_
  refine J_aload_n rfl dX3_reads_0 ?_
  refine J_aload_n rfl dX3_reads_1 ?_
  refine J_b0 (J_callV (b1 := 0) (ci := 3) (vs := [vR (some 29)]) (rest := []) (Or.inl rfl) ml_RX3_50 rfl (by decide) rfl rfl (Or.inl rfl) (Nat.le_of_ble_eq_true rfl) rfl dX3_reads_2 (WM_mono K (fun r h1 K => ?_)))
  obtain ⟨rfl, K⟩ := K
  show J _ _ _ _ _ _ _ [] _
  refine J_aload_n rfl dX3_reads_5 ?_
  refine J_iconst (by decide) dX3_reads_6 ?_
  refine J_putI fl_RX3_54 rfl (Or.inl rfl) dX3_reads_7 ?_
  replace K := K _ rfl
  refine J_aload_n rfl dX3_reads_10 ?_
  refine J_iconst (by decide) dX3_reads_11 ?_
  refine J_putI fl_RX3_25 rfl (Or.inl rfl) dX3_reads_12 ?_
  replace K := K _ rfl
  refine J_aload_n rfl dX3_reads_15 ?_
  refine J_aload_n rfl dX3_reads_16 ?_
  refine J_getS (r := 32) fl_RX3_9 rfl (Or.inl rfl) rfl dX3_reads_17 ?_
  refine J_iconst (by decide) dX3_reads_20 ?_
  refine J_ialoade (Or.inl rfl) (by decide) (Eq.trans (gi_no (by decide)) (gi_no (by decide))) dX3_reads_21 ?_
  refine J_putI fl_RX3_28 rfl (Or.inl rfl) dX3_reads_22 ?_
  replace K := K _ rfl
  refine J_aload_n rfl dX3_reads_25 ?_
  refine J_iconst (by decide) dX3_reads_26 ?_
  refine J_putI fl_RX3_31 rfl (Or.inl rfl) dX3_reads_27 ?_
  replace K := K _ rfl
  refine J_aload_n rfl dX3_reads_30 ?_
  refine J_iload_n rfl dX3_reads_31 ?_
  refine J_putZ fl_RX3_34 rfl K.1 (Or.inl rfl) dX3_reads_32 ?_
  replace K := K.2
  replace K := K _ rfl
  refine J_aload_n rfl dX3_reads_35 ?_
  refine J_getS (r := 35) fl_RX3_46 rfl (Or.inl rfl) rfl dX3_reads_36 ?_
  refine J_iconst (by decide) dX3_reads_39 ?_
  refine J_putI fl_RX3_59 rfl (Or.inl rfl) dX3_reads_40 ?_
  replace K := K _ rfl
  refine J_aload_n rfl dX3_reads_43 ?_
  refine J_getS (r := 35) fl_RX3_46 rfl (Or.inl rfl) rfl dX3_reads_44 ?_
  refine J_iconst (by decide) dX3_reads_47 ?_
  refine J_putI fl_RX3_62 rfl (Or.inl rfl) dX3_reads_48 ?_
  replace K := K _ rfl
  refine J_aload_n rfl dX3_reads_51 ?_
  refine J_b0 (J_callV (b1 := 0) (ci := 3) (vs := []) (rest := []) (Or.inl rfl) ml_RX3_63 rfl (by decide) rfl rfl (Or.inl rfl) (Nat.le_of_ble_eq_true rfl) rfl dX3_reads_52 (WM_mono K (fun r h9 K => ?_)))
  obtain ⟨u2, rfl, K⟩ := K
  show J _ _ _ _ _ _ _ [vI u2] _
  refine J_istore_n (loc' := [some (vR (some 31)), some (vR (some 29)), some (vI x2), some (vI u2), none]) (by decide) rfl dX3_reads_55 ?_
  refine J_iconst (by decide) dX3_reads_56 ?_
  refine J_istore (loc' := [some (vR (some 31)), some (vR (some 29)), some (vI x2), some (vI u2), some (vI 1)]) (by decide) rfl dX3_reads_57 ?_
  exact J_forget (loc' := [some (vR (some 31)), none, none, some (vI u2), some (vI 1)]) (And.intro (Or.inr rfl) (And.intro (Or.inl rfl) (And.intro (Or.inl rfl) (And.intro (Or.inr rfl) (And.intro (Or.inr rfl) True.intro))))) K
