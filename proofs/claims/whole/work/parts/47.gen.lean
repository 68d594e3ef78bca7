set_option maxRecDepth 20000 in
set_option maxHeartbeats 2000000 in
theorem w_X2_stepsBy {d b : Nat} {Q : Option AV → AH → Prop} {h : AH} {x1 : Int} {x2 : Int} {x3 : Int} {x4 : Int}  (K : (x1 = x4 → R32 (Int.tmod 0 5) ∧ (0 ≤ x2 ∧ x2 < 7) ∧ R32 (Int.tmod (gi h 47 x2) 5) ∧ R32 ((Int.tmod 0 5) - (Int.tmod (gi h 47 x2) 5)) ∧ R32 (-((Int.tmod 0 5) - (Int.tmod (gi h 47 x2) 5))) ∧ R32 (Int.tdiv 0 5) ∧ (0 ≤ x2 ∧ x2 < 7) ∧ R32 (Int.tdiv (gi h 47 x2) 5) ∧ R32 ((Int.tdiv 0 5) - (Int.tdiv (gi h 47 x2) 5)) ∧ R32 (-((Int.tdiv 0 5) - (Int.tdiv (gi h 47 x2) 5))) ∧ R32 ((zabs ((Int.tmod 0 5) - (Int.tmod (gi h 47 x2) 5))) + (zabs ((Int.tdiv 0 5) - (Int.tdiv (gi h 47 x2) 5)))) ∧ R32 (x2 * 128) ∧ R32 ((x2 * 128) + (zand x3 (zxor (zshl 1 x2) (-1)))) ∧ (0 ≤ (x2 * 128) + (zand x3 (zxor (zshl 1 x2) (-1))) ∧ (x2 * 128) + (zand x3 (zxor (zshl 1 x2) (-1))) < 1024) ∧ R32 (((zabs ((Int.tmod 0 5) - (Int.tmod (gi h 47 x2) 5))) + (zabs ((Int.tdiv 0 5) - (Int.tdiv (gi h 47 x2) 5)))) + (gi h 46 ((x2 * 128) + (zand x3 (zxor (zshl 1 x2) (-1)))))) ∧ Q (some (vI (((zabs ((Int.tmod 0 5) - (Int.tmod (gi h 47 x2) 5))) + (zabs ((Int.tdiv 0 5) - (Int.tdiv (gi h 47 x2) 5)))) + (gi h 46 ((x2 * 128) + (zand x3 (zxor (zshl 1 x2) (-1)))))))) h) ∧ (¬(x1 = x4) → (0 ≤ x1 ∧ x1 < 7) ∧ R32 (Int.tmod (gi h 47 x1) 5) ∧ (0 ≤ x2 ∧ x2 < 7) ∧ R32 (Int.tmod (gi h 47 x2) 5) ∧ R32 ((Int.tmod (gi h 47 x1) 5) - (Int.tmod (gi h 47 x2) 5)) ∧ R32 (-((Int.tmod (gi h 47 x1) 5) - (Int.tmod (gi h 47 x2) 5))) ∧ R32 (Int.tdiv (gi h 47 x1) 5) ∧ (0 ≤ x2 ∧ x2 < 7) ∧ R32 (Int.tdiv (gi h 47 x2) 5) ∧ R32 ((Int.tdiv (gi h 47 x1) 5) - (Int.tdiv (gi h 47 x2) 5)) ∧ R32 (-((Int.tdiv (gi h 47 x1) 5) - (Int.tdiv (gi h 47 x2) 5))) ∧ R32 ((zabs ((Int.tmod (gi h 47 x1) 5) - (Int.tmod (gi h 47 x2) 5))) + (zabs ((Int.tdiv (gi h 47 x1) 5) - (Int.tdiv (gi h 47 x2) 5)))) ∧ R32 (x2 * 128) ∧ R32 ((x2 * 128) + (zand x3 (zxor (zshl 1 x2) (-1)))) ∧ (0 ≤ (x2 * 128) + (zand x3 (zxor (zshl 1 x2) (-1))) ∧ (x2 * 128) + (zand x3 (zxor (zshl 1 x2) (-1))) < 1024) ∧ R32 (((zabs ((Int.tmod (gi h 47 x1) 5) - (Int.tmod (gi h 47 x2) 5))) + (zabs ((Int.tdiv (gi h 47 x1) 5) - (Int.tdiv (gi h 47 x2) 5)))) + (gi h 46 ((x2 * 128) + (zand x3 (zxor (zshl 1 x2) (-1)))))) ∧ Q (some (vI (((zabs ((Int.tmod (gi h 47 x1) 5) - (Int.tmod (gi h 47 x2) 5))) + (zabs ((Int.tdiv (gi h 47 x1) 5) - (Int.tdiv (gi h 47 x2) 5)))) + (gi h 46 ((x2 * 128) + (zand x3 (zxor (zshl 1 x2) (-1)))))))) h)) : WM GX (d + 1) b mX2_stepsBy [vR (some 43), vI x1, vI x2, vI x3, vI x4] h Q := by
  refine WM_introE (loc' := [some (vR (some 43)), some (vI x1), some (vI x2), some (vI x3), some (vI x4), none, none, none]) rfl (by decide) (Nat.le_of_ble_eq_true rfl) ?_
  refine J_iload_n rfl dX2_stepsBy_0 ?_
  refine J_iload rfl dX2_stepsBy_1 ?_
  refine J_icmp_ne (tgt := 10) dX2_stepsBy_3 (by decide) (fun c => ?_) (fun c => ?_)
  · replace K := K.2 c
    refine J_aload_n rfl dX2_stepsBy_10 ?_
    refine J_getS (r := 47) fl_RX2_21 rfl (Or.inl rfl) rfl dX2_stepsBy_11 ?_
    refine J_iload_n rfl dX2_stepsBy_14 ?_
    refine J_iaload (Or.inl rfl) K.1 dX2_stepsBy_15 ?_
    replace K := K.2
    refine J_istore (loc' := [some (vR (some 43)), some (vI x1), some (vI x2), some (vI x3), some (vI x4), some (vI (gi h 47 x1)), none, none]) (by decide) rfl dX2_stepsBy_16 ?_
    refine J_iload rfl dX2_stepsBy_18 ?_
    refine J_iconst (by decide) dX2_stepsBy_20 ?_
    refine J_irem (by decide) K.1 dX2_stepsBy_21 ?_
    replace K := K.2
    refine J_aload_n rfl dX2_stepsBy_22 ?_
    refine J_getS (r := 47) fl_RX2_21 rfl (Or.inl rfl) rfl dX2_stepsBy_23 ?_
    refine J_iload_n rfl dX2_stepsBy_26 ?_
    refine J_iaload (Or.inl rfl) K.1 dX2_stepsBy_27 ?_
    replace K := K.2
    refine J_iconst (by decide) dX2_stepsBy_28 ?_
    refine J_irem (by decide) K.1 dX2_stepsBy_29 ?_
    replace K := K.2
    refine J_isub K.1 dX2_stepsBy_30 ?_
    replace K := K.2
    refine J_mabs K.1 ml_RX2_98 (Nat.le_of_ble_eq_true rfl) dX2_stepsBy_31 ?_
    replace K := K.2
    refine J_istore (loc' := [some (vR (some 43)), some (vI x1), some (vI x2), some (vI x3), some (vI x4), some (vI (gi h 47 x1)), some (vI (zabs ((Int.tmod (gi h 47 x1) 5) - (Int.tmod (gi h 47 x2) 5)))), none]) (by decide) rfl dX2_stepsBy_34 ?_
    refine J_iload rfl dX2_stepsBy_36 ?_
    refine J_iconst (by decide) dX2_stepsBy_38 ?_
    refine J_idiv (by decide) K.1 dX2_stepsBy_39 ?_
    replace K := K.2
    refine J_aload_n rfl dX2_stepsBy_40 ?_
    refine J_getS (r := 47) fl_RX2_21 rfl (Or.inl rfl) rfl dX2_stepsBy_41 ?_
    refine J_iload_n rfl dX2_stepsBy_44 ?_
    refine J_iaload (Or.inl rfl) K.1 dX2_stepsBy_45 ?_
    replace K := K.2
    refine J_iconst (by decide) dX2_stepsBy_46 ?_
    refine J_idiv (by decide) K.1 dX2_stepsBy_47 ?_
    replace K := K.2
    refine J_isub K.1 dX2_stepsBy_48 ?_
    replace K := K.2
    refine J_mabs K.1 ml_RX2_98 (Nat.le_of_ble_eq_true rfl) dX2_stepsBy_49 ?_
    replace K := K.2
    refine J_istore (loc' := [some (vR (some 43)), some (vI x1), some (vI x2), some (vI x3), some (vI x4), some (vI (gi h 47 x1)), some (vI (zabs ((Int.tmod (gi h 47 x1) 5) - (Int.tmod (gi h 47 x2) 5)))), some (vI (zabs ((Int.tdiv (gi h 47 x1) 5) - (Int.tdiv (gi h 47 x2) 5))))]) (by decide) rfl dX2_stepsBy_52 ?_
    refine J_iload rfl dX2_stepsBy_54 ?_
    refine J_iload rfl dX2_stepsBy_56 ?_
    refine J_iadd K.1 dX2_stepsBy_58 ?_
    replace K := K.2
    refine J_aload_n rfl dX2_stepsBy_59 ?_
    refine J_getS (r := 46) fl_RX2_18 rfl (Or.inl rfl) rfl dX2_stepsBy_60 ?_
    refine J_iload_n rfl dX2_stepsBy_63 ?_
    refine J_sipush (by decide) (by decide) dX2_stepsBy_64 ?_
    refine J_imul K.1 dX2_stepsBy_67 ?_
    replace K := K.2
    refine J_iload_n rfl dX2_stepsBy_68 ?_
    refine J_iconst (by decide) dX2_stepsBy_69 ?_
    refine J_iload_n rfl dX2_stepsBy_70 ?_
    refine J_ishl dX2_stepsBy_71 ?_
    refine J_iconst (by decide) dX2_stepsBy_72 ?_
    refine J_ixor dX2_stepsBy_73 ?_
    refine J_iand dX2_stepsBy_74 ?_
    refine J_iadd K.1 dX2_stepsBy_75 ?_
    replace K := K.2
    refine J_iaload (Or.inl rfl) K.1 dX2_stepsBy_76 ?_
    replace K := K.2
    refine J_iadd K.1 dX2_stepsBy_77 ?_
    replace K := K.2
    exact J_ireturn rfl dX2_stepsBy_78 K
  · replace K := K.1 c
    refine J_iconst (by decide) dX2_stepsBy_6 ?_
    refine J_goto (tgt := 16) dX2_stepsBy_7 (by decide) ?_
    refine J_istore (loc' := [some (vR (some 43)), some (vI x1), some (vI x2), some (vI x3), some (vI x4), some (vI 0), none, none]) (by decide) rfl dX2_stepsBy_16 ?_
    refine J_iload rfl dX2_stepsBy_18 ?_
    refine J_iconst (by decide) dX2_stepsBy_20 ?_
    refine J_irem (by decide) K.1 dX2_stepsBy_21 ?_
    replace K := K.2
    refine J_aload_n rfl dX2_stepsBy_22 ?_
    refine J_getS (r := 47) fl_RX2_21 rfl (Or.inl rfl) rfl dX2_stepsBy_23 ?_
    refine J_iload_n rfl dX2_stepsBy_26 ?_
    refine J_iaload (Or.inl rfl) K.1 dX2_stepsBy_27 ?_
    replace K := K.2
    refine J_iconst (by decide) dX2_stepsBy_28 ?_
    refine J_irem (by decide) K.1 dX2_stepsBy_29 ?_
    replace K := K.2
    refine J_isub K.1 dX2_stepsBy_30 ?_
    replace K := K.2
    refine J_mabs K.1 ml_RX2_98 (Nat.le_of_ble_eq_true rfl) dX2_stepsBy_31 ?_
    replace K := K.2
    refine J_istore (loc' := [some (vR (some 43)), some (vI x1), some (vI x2), some (vI x3), some (vI x4), some (vI 0), some (vI (zabs ((Int.tmod 0 5) - (Int.tmod (gi h 47 x2) 5)))), none]) (by decide) rfl dX2_stepsBy_34 ?_
    refine J_iload rfl dX2_stepsBy_36 ?_
    refine J_iconst (by decide) dX2_stepsBy_38 ?_
    refine J_idiv (by decide) K.1 dX2_stepsBy_39 ?_
    replace K := K.2
    refine J_aload_n rfl dX2_stepsBy_40 ?_
    refine J_getS (r := 47) fl_RX2_21 rfl (Or.inl rfl) rfl dX2_stepsBy_41 ?_
    refine J_iload_n rfl dX2_stepsBy_44 ?_
    refine J_iaload (Or.inl rfl) K.1 dX2_stepsBy_45 ?_
    replace K := K.2
    refine J_iconst (by decide) dX2_stepsBy_46 ?_
    refine J_idiv (by decide) K.1 dX2_stepsBy_47 ?_
    replace K := K.2
    refine J_isub K.1 dX2_stepsBy_48 ?_
    replace K := K.2
    refine J_mabs K.1 ml_RX2_98 (Nat.le_of_ble_eq_true rfl) dX2_stepsBy_49 ?_
    replace K := K.2
    refine J_istore (loc' := [some (vR (some 43)), some (vI x1), some (vI x2), some (vI x3), some (vI x4), some (vI 0), some (vI (zabs ((Int.tmod 0 5) - (Int.tmod (gi h 47 x2) 5)))), some (vI (zabs ((Int.tdiv 0 5) - (Int.tdiv (gi h 47 x2) 5))))]) (by decide) rfl dX2_stepsBy_52 ?_
    refine J_iload rfl dX2_stepsBy_54 ?_
    refine J_iload rfl dX2_stepsBy_56 ?_
    refine J_iadd K.1 dX2_stepsBy_58 ?_
    replace K := K.2
    refine J_aload_n rfl dX2_stepsBy_59 ?_
    refine J_getS (r := 46) fl_RX2_18 rfl (Or.inl rfl) rfl dX2_stepsBy_60 ?_
    refine J_iload_n rfl dX2_stepsBy_63 ?_
    refine J_sipush (by decide) (by decide) dX2_stepsBy_64 ?_
    refine J_imul K.1 dX2_stepsBy_67 ?_
    replace K := K.2
    refine J_iload_n rfl dX2_stepsBy_68 ?_
    refine J_iconst (by decide) dX2_stepsBy_69 ?_
    refine J_iload_n rfl dX2_stepsBy_70 ?_
    refine J_ishl dX2_stepsBy_71 ?_
    refine J_iconst (by decide) dX2_stepsBy_72 ?_
    refine J_ixor dX2_stepsBy_73 ?_
    refine J_iand dX2_stepsBy_74 ?_
    refine J_iadd K.1 dX2_stepsBy_75 ?_
    replace K := K.2
    refine J_iaload (Or.inl rfl) K.1 dX2_stepsBy_76 ?_
    replace K := K.2
    refine J_iadd K.1 dX2_stepsBy_77 ?_
    replace K := K.2
    exact J_ireturn rfl dX2_stepsBy_78 K
def Lp_X2_shortestWay_4 (d b : Nat) (Q : Option AV → AH → Prop)  (y1 : Int) (y2 : Int) (y3 : Int) (h : AH) : Prop := J GX (d + 2) b mX2_shortestWay Q 4 [some (vR (some 43)), some (vI y1), some (vI y2), some (vI y3), none, none, none, none, none, none] [] h
def Lp_X2_shortestWay_48 (d b : Nat) (Q : Option AV → AH → Prop)  (y2 : Int) (y3 : Int) (y4 : Int) (h : AH) : Prop := J GX (d + 2) b mX2_shortestWay Q 48 [some (vR (some 43)), none, some (vI y2), some (vI y3), some (vI y4), none, none, none, none, none] [] h
def Lp_X2_shortestWay_150 (d b : Nat) (Q : Option AV → AH → Prop)  (y2 : Int) (y3 : Int) (y4 : Int) (y5 : Int) (y6 : Int) (h : AH) : Prop := J GX (d + 2) b mX2_shortestWay Q 150 [some (vR (some 43)), none, some (vI y2), some (vI y3), some (vI y4), some (vI y5), some (vI y6), none, none, none] [] h
def Lp_X2_shortestWay_57 (d b : Nat) (Q : Option AV → AH → Prop)  (y2 : Int) (y3 : Int) (y4 : Int) (y5 : Int) (h : AH) : Prop := J GX (d + 2) b mX2_shortestWay Q 57 [some (vR (some 43)), none, some (vI y2), some (vI y3), some (vI y4), some (vI y5), none, none, none, none] [] h
def Lp_X2_shortestWay_162 (d b : Nat) (Q : Option AV → AH → Prop)  (y2 : Int) (y3 : Int) (y4 : Int) (y5 : Int) (y6 : Int) (y7 : Int) (y8 : Int) (h : AH) : Prop := J GX (d + 2) b mX2_shortestWay Q 162 [some (vR (some 43)), none, some (vI y2), some (vI y3), some (vI y4), some (vI y5), some (vI y6), some (vI y7), some (vI y8), none] [] h
def Lp_X2_shortestWay_70 (d b : Nat) (Q : Option AV → AH → Prop)  (y2 : Int) (y3 : Int) (y4 : Int) (y5 : Int) (y6 : Int) (y7 : Int) (h : AH) : Prop := J GX (d + 2) b mX2_shortestWay Q 70 [some (vR (some 43)), none, some (vI y2), some (vI y3), some (vI y4), some (vI y5), some (vI y6), some (vI y7), none, none] [] h
set_option maxRecDepth 20000 in
set_option maxHeartbeats 2000000 in
theorem l_X2_shortestWay_4 {d b : Nat} {Q : Option AV → AH → Prop} {h : AH}  {y1 : Int} {y2 : Int} {y3 : Int}  (K : (25 ≤ y3 → Lp_X2_shortestWay_48 d b Q y2 (zshl 1 y2) 1 h) ∧ (¬(25 ≤ y3) → (7 ≤ y2 → Lp_X2_shortestWay_48 d b Q y2 (zshl 1 y2) 1 h) ∧ (¬(7 ≤ y2) → (zand (zshr y1 y3) 1 = 1 → (0 ≤ y2 ∧ y2 < 7) ∧ ∀ h1, h1 = si h 47 y2 y3 → R32 (y2 + 1) ∧ R32 (y3 + 1) ∧ Lp_X2_shortestWay_4 d b Q y1 (y2 + 1) (y3 + 1) h1) ∧ (¬(zand (zshr y1 y3) 1 = 1) → R32 (y3 + 1) ∧ Lp_X2_shortestWay_4 d b Q y1 y2 (y3 + 1) h)))) : Lp_X2_shortestWay_4 d b Q y1 y2 y3 h := by
  unfold Lp_X2_shortestWay_4
  refine J_iload_n rfl dX2_shortestWay_4 ?_
  refine J_bipush (by decide) (by decide) dX2_shortestWay_5 ?_
  refine J_icmp_ge (tgt := 41) dX2_shortestWay_7 (by decide) (fun c => ?_) (fun c => ?_)
  · replace K := K.1 c
    refine J_iconst (by decide) dX2_shortestWay_41 ?_
    refine J_iload_n rfl dX2_shortestWay_42 ?_
    refine J_ishl dX2_shortestWay_43 ?_
    refine J_istore_n (loc' := [some (vR (some 43)), some (vI y1), some (vI y2), some (vI (zshl 1 y2)), none, none, none, none, none, none]) (by decide) rfl dX2_shortestWay_44 ?_
    refine J_iconst (by decide) dX2_shortestWay_45 ?_
    refine J_istore (loc' := [some (vR (some 43)), some (vI y1), some (vI y2), some (vI (zshl 1 y2)), some (vI 1), none, none, none, none, none]) (by decide) rfl dX2_shortestWay_46 ?_
    exact J_forget (loc' := [some (vR (some 43)), none, some (vI y2), some (vI (zshl 1 y2)), some (vI 1), none, none, none, none, none]) (And.intro (Or.inr rfl) (And.intro (Or.inl rfl) (And.intro (Or.inr rfl) (And.intro (Or.inr rfl) (And.intro (Or.inr rfl) (And.intro (Or.inl rfl) (And.intro (Or.inl rfl) (And.intro (Or.inl rfl) (And.intro (Or.inl rfl) (And.intro (Or.inl rfl) True.intro)))))))))) K
  · replace K := K.2 c
    refine J_iload_n rfl dX2_shortestWay_10 ?_
    refine J_bipush (by decide) (by decide) dX2_shortestWay_11 ?_
    refine J_icmp_ge (tgt := 41) dX2_shortestWay_13 (by decide) (fun c => ?_) (fun c => ?_)
    · replace K := K.1 c
      refine J_iconst (by decide) dX2_shortestWay_41 ?_
      refine J_iload_n rfl dX2_shortestWay_42 ?_
      refine J_ishl dX2_shortestWay_43 ?_
      refine J_istore_n (loc' := [some (vR (some 43)), some (vI y1), some (vI y2), some (vI (zshl 1 y2)), none, none, none, none, none, none]) (by decide) rfl dX2_shortestWay_44 ?_
      refine J_iconst (by decide) dX2_shortestWay_45 ?_
      refine J_istore (loc' := [some (vR (some 43)), some (vI y1), some (vI y2), some (vI (zshl 1 y2)), some (vI 1), none, none, none, none, none]) (by decide) rfl dX2_shortestWay_46 ?_
      exact J_forget (loc' := [some (vR (some 43)), none, some (vI y2), some (vI (zshl 1 y2)), some (vI 1), none, none, none, none, none]) (And.intro (Or.inr rfl) (And.intro (Or.inl rfl) (And.intro (Or.inr rfl) (And.intro (Or.inr rfl) (And.intro (Or.inr rfl) (And.intro (Or.inl rfl) (And.intro (Or.inl rfl) (And.intro (Or.inl rfl) (And.intro (Or.inl rfl) (And.intro (Or.inl rfl) True.intro)))))))))) K
    · replace K := K.2 c
      refine J_iload_n rfl dX2_shortestWay_16 ?_
      refine J_iload_n rfl dX2_shortestWay_17 ?_
      refine J_ishr dX2_shortestWay_18 ?_
      refine J_iconst (by decide) dX2_shortestWay_19 ?_
      refine J_iand dX2_shortestWay_20 ?_
      refine J_iconst (by decide) dX2_shortestWay_21 ?_
      refine J_icmp_ne (tgt := 35) dX2_shortestWay_22 (by decide) (fun c => ?_) (fun c => ?_)
      · replace K := K.2 c
        refine J_iinc (loc' := [some (vR (some 43)), some (vI y1), some (vI y2), some (vI (y3 + 1)), none, none, none, none, none, none]) (by decide) rfl K.1 rfl dX2_shortestWay_35 ?_
        replace K := K.2
        refine J_goto (tgt := 4) dX2_shortestWay_38 (by decide) ?_
        exact J_forget (loc' := [some (vR (some 43)), some (vI y1), some (vI y2), some (vI (y3 + 1)), none, none, none, none, none, none]) (And.intro (Or.inr rfl) (And.intro (Or.inr rfl) (And.intro (Or.inr rfl) (And.intro (Or.inr rfl) (And.intro (Or.inl rfl) (And.intro (Or.inl rfl) (And.intro (Or.inl rfl) (And.intro (Or.inl rfl) (And.intro (Or.inl rfl) (And.intro (Or.inl rfl) True.intro)))))))))) K
      · replace K := K.1 c
        refine J_aload_n rfl dX2_shortestWay_25 ?_
        refine J_getS (r := 47) fl_RX2_21 rfl (Or.inl rfl) rfl dX2_shortestWay_26 ?_
        refine J_iload_n rfl dX2_shortestWay_29 ?_
        refine J_iload_n rfl dX2_shortestWay_30 ?_
        refine J_iastore (Or.inl rfl) K.1 dX2_shortestWay_31 ?_
        replace K := K.2
        replace K := K _ rfl
        refine J_iinc (loc' := [some (vR (some 43)), some (vI y1), some (vI (y2 + 1)), some (vI y3), none, none, none, none, none, none]) (by decide) rfl K.1 rfl dX2_shortestWay_32 ?_
        replace K := K.2
        refine J_iinc (loc' := [some (vR (some 43)), some (vI y1), some (vI (y2 + 1)), some (vI (y3 + 1)), none, none, none, none, none, none]) (by decide) rfl K.1 rfl dX2_shortestWay_35 ?_
        replace K := K.2
        refine J_goto (tgt := 4) dX2_shortestWay_38 (by decide) ?_
        exact J_forget (loc' := [some (vR (some 43)), some (vI y1), some (vI (y2 + 1)), some (vI (y3 + 1)), none, none, none, none, none, none]) (And.intro (Or.inr rfl) (And.intro (Or.inr rfl) (And.intro (Or.inr rfl) (And.intro (Or.inr rfl) (And.intro (Or.inl rfl) (And.intro (Or.inl rfl) (And.intro (Or.inl rfl) (And.intro (Or.inl rfl) (And.intro (Or.inl rfl) (And.intro (Or.inl rfl) True.intro)))))))))) K
set_option maxRecDepth 20000 in
set_option maxHeartbeats 2000000 in
theorem l_X2_shortestWay_48 {d b : Nat} {Q : Option AV → AH → Prop} {h : AH}  {y2 : Int} {y3 : Int} {y4 : Int}  (K : (y3 ≤ y4 → R32 (y3 - 1) ∧ Lp_X2_shortestWay_150 d b Q y2 y3 y2 (y3 - 1) 0 h) ∧ (¬(y3 ≤ y4) → Lp_X2_shortestWay_57 d b Q y2 y3 y4 0 h)) : Lp_X2_shortestWay_48 d b Q y2 y3 y4 h := by
  unfold Lp_X2_shortestWay_48
  refine J_iload rfl dX2_shortestWay_48 ?_
  refine J_iload_n rfl dX2_shortestWay_50 ?_
  refine J_icmp_ge (tgt := 139) dX2_shortestWay_51 (by decide) (fun c => ?_) (fun c => ?_)
  · replace K := K.1 c
    refine J_iload_n rfl dX2_shortestWay_139 ?_
    refine J_istore (loc' := [some (vR (some 43)), none, some (vI y2), some (vI y3), some (vI y2), none, none, none, none, none]) (by decide) rfl dX2_shortestWay_140 ?_
    refine J_iload_n rfl dX2_shortestWay_142 ?_
    refine J_iconst (by decide) dX2_shortestWay_143 ?_
    refine J_isub K.1 dX2_shortestWay_144 ?_
    replace K := K.2
    refine J_istore (loc' := [some (vR (some 43)), none, some (vI y2), some (vI y3), some (vI y2), some (vI (y3 - 1)), none, none, none, none]) (by decide) rfl dX2_shortestWay_145 ?_
    refine J_iconst (by decide) dX2_shortestWay_147 ?_
    refine J_istore (loc' := [some (vR (some 43)), none, some (vI y2), some (vI y3), some (vI y2), some (vI (y3 - 1)), some (vI 0), none, none, none]) (by decide) rfl dX2_shortestWay_148 ?_
    exact J_forget (loc' := [some (vR (some 43)), none, some (vI y2), some (vI y3), some (vI y2), some (vI (y3 - 1)), some (vI 0), none, none, none]) (And.intro (Or.inr rfl) (And.intro (Or.inl rfl) (And.intro (Or.inr rfl) (And.intro (Or.inr rfl) (And.intro (Or.inr rfl) (And.intro (Or.inr rfl) (And.intro (Or.inr rfl) (And.intro (Or.inl rfl) (And.intro (Or.inl rfl) (And.intro (Or.inl rfl) True.intro)))))))))) K
  · replace K := K.2 c
    refine J_iconst (by decide) dX2_shortestWay_54 ?_
    refine J_istore (loc' := [some (vR (some 43)), none, some (vI y2), some (vI y3), some (vI y4), some (vI 0), none, none, none, none]) (by decide) rfl dX2_shortestWay_55 ?_
    exact J_forget (loc' := [some (vR (some 43)), none, some (vI y2), some (vI y3), some (vI y4), some (vI 0), none, none, none, none]) (And.intro (Or.inr rfl) (And.intro (Or.inl rfl) (And.intro (Or.inr rfl) (And.intro (Or.inr rfl) (And.intro (Or.inr rfl) (And.intro (Or.inr rfl) (And.intro (Or.inl rfl) (And.intro (Or.inl rfl) (And.intro (Or.inl rfl) (And.intro (Or.inl rfl) True.intro)))))))))) K
set_option maxRecDepth 20000 in
set_option maxHeartbeats 2000000 in
theorem l_X2_shortestWay_150 {d b : Nat} {Q : Option AV → AH → Prop} {h : AH}  {y2 : Int} {y3 : Int} {y4 : Int} {y5 : Int} {y6 : Int}  (K : (y2 ≤ y6 → R32 (y2 * 128) ∧ R32 ((y2 * 128) + y3) ∧ R32 (((y2 * 128) + y3) - 1) ∧ (0 ≤ ((y2 * 128) + y3) - 1 ∧ ((y2 * 128) + y3) - 1 < 1024) ∧ Q (some (vI (gi h 46 (((y2 * 128) + y3) - 1)))) h) ∧ (¬(y2 ≤ y6) → Lp_X2_shortestWay_162 d b Q y2 y3 y4 y5 y6 (-1) 0 h)) : Lp_X2_shortestWay_150 d b Q y2 y3 y4 y5 y6 h := by
  unfold Lp_X2_shortestWay_150
  refine J_iload rfl dX2_shortestWay_150 ?_
  refine J_iload_n rfl dX2_shortestWay_152 ?_
  refine J_icmp_ge (tgt := 278) dX2_shortestWay_153 (by decide) (fun c => ?_) (fun c => ?_)
  · replace K := K.1 c
    refine J_aload_n rfl dX2_shortestWay_278 ?_
    refine J_getS (r := 46) fl_RX2_18 rfl (Or.inl rfl) rfl dX2_shortestWay_279 ?_
    refine J_iload_n rfl dX2_shortestWay_282 ?_
    refine J_sipush (by decide) (by decide) dX2_shortestWay_283 ?_
    refine J_imul K.1 dX2_shortestWay_286 ?_
    replace K := K.2
    refine J_iload_n rfl dX2_shortestWay_287 ?_
    refine J_iadd K.1 dX2_shortestWay_288 ?_
    replace K := K.2
    refine J_iconst (by decide) dX2_shortestWay_289 ?_
    refine J_isub K.1 dX2_shortestWay_290 ?_
    replace K := K.2
    refine J_iaload (Or.inl rfl) K.1 dX2_shortestWay_291 ?_
    replace K := K.2
    exact J_ireturn rfl dX2_shortestWay_292 K
  · replace K := K.2 c
    refine J_iconst (by decide) dX2_shortestWay_156 ?_
    refine J_istore (loc' := [some (vR (some 43)), none, some (vI y2), some (vI y3), some (vI y4), some (vI y5), some (vI y6), some (vI (-1)), none, none]) (by decide) rfl dX2_shortestWay_157 ?_
    refine J_iconst (by decide) dX2_shortestWay_159 ?_
    refine J_istore (loc' := [some (vR (some 43)), none, some (vI y2), some (vI y3), some (vI y4), some (vI y5), some (vI y6), some (vI (-1)), some (vI 0), none]) (by decide) rfl dX2_shortestWay_160 ?_
    exact J_forget (loc' := [some (vR (some 43)), none, some (vI y2), some (vI y3), some (vI y4), some (vI y5), some (vI y6), some (vI (-1)), some (vI 0), none]) (And.intro (Or.inr rfl) (And.intro (Or.inl rfl) (And.intro (Or.inr rfl) (And.intro (Or.inr rfl) (And.intro (Or.inr rfl) (And.intro (Or.inr rfl) (And.intro (Or.inr rfl) (And.intro (Or.inr rfl) (And.intro (Or.inr rfl) (And.intro (Or.inl rfl) True.intro)))))))))) K
set_option maxRecDepth 20000 in
set_option maxHeartbeats 2000000 in
theorem l_X2_shortestWay_57 {d b : Nat} {Q : Option AV → AH → Prop} {h : AH}  {y2 : Int} {y3 : Int} {y4 : Int} {y5 : Int}  (K : (y2 < y5 → R32 (y4 + 1) ∧ Lp_X2_shortestWay_48 d b Q y2 y3 (y4 + 1) h) ∧ (¬(y2 < y5) → Lp_X2_shortestWay_70 d b Q y2 y3 y4 y5 70 0 h)) : Lp_X2_shortestWay_57 d b Q y2 y3 y4 y5 h := by
  unfold Lp_X2_shortestWay_57
  refine J_iload rfl dX2_shortestWay_57 ?_
  refine J_iload_n rfl dX2_shortestWay_59 ?_
  refine J_icmp_gt (tgt := 133) dX2_shortestWay_60 (by decide) (fun c => ?_) (fun c => ?_)
  · replace K := K.1 c
    refine J_iinc (loc' := [some (vR (some 43)), none, some (vI y2), some (vI y3), some (vI (y4 + 1)), some (vI y5), none, none, none, none]) (by decide) rfl K.1 rfl dX2_shortestWay_133 ?_
    replace K := K.2
    refine J_goto (tgt := 48) dX2_shortestWay_136 (by decide) ?_
    exact J_forget (loc' := [some (vR (some 43)), none, some (vI y2), some (vI y3), some (vI (y4 + 1)), none, none, none, none, none]) (And.intro (Or.inr rfl) (And.intro (Or.inl rfl) (And.intro (Or.inr rfl) (And.intro (Or.inr rfl) (And.intro (Or.inr rfl) (And.intro (Or.inl rfl) (And.intro (Or.inl rfl) (And.intro (Or.inl rfl) (And.intro (Or.inl rfl) (And.intro (Or.inl rfl) True.intro)))))))))) K
  · replace K := K.2 c
    refine J_bipush (by decide) (by decide) dX2_shortestWay_63 ?_
    refine J_istore (loc' := [some (vR (some 43)), none, some (vI y2), some (vI y3), some (vI y4), some (vI y5), some (vI 70), none, none, none]) (by decide) rfl dX2_shortestWay_65 ?_
    refine J_iconst (by decide) dX2_shortestWay_67 ?_
    refine J_istore (loc' := [some (vR (some 43)), none, some (vI y2), some (vI y3), some (vI y4), some (vI y5), some (vI 70), some (vI 0), none, none]) (by decide) rfl dX2_shortestWay_68 ?_
    exact J_forget (loc' := [some (vR (some 43)), none, some (vI y2), some (vI y3), some (vI y4), some (vI y5), some (vI 70), some (vI 0), none, none]) (And.intro (Or.inr rfl) (And.intro (Or.inl rfl) (And.intro (Or.inr rfl) (And.intro (Or.inr rfl) (And.intro (Or.inr rfl) (And.intro (Or.inr rfl) (And.intro (Or.inr rfl) (And.intro (Or.inr rfl) (And.intro (Or.inl rfl) (And.intro (Or.inl rfl) True.intro)))))))))) K
set_option maxRecDepth 20000 in
set_option maxHeartbeats 2000000 in
theorem l_X2_shortestWay_162 {d b : Nat} {Q : Option AV → AH → Prop} {h : AH}  {y2 : Int} {y3 : Int} {y4 : Int} {y5 : Int} {y6 : Int} {y7 : Int} {y8 : Int}  (K : (y2 ≤ y8 → (y7 = (-1) → Q (some (vI (-1))) h) ∧ (¬(y7 = (-1)) → (0 ≤ y7 ∧ y7 < 7) ∧ (0 ≤ y6 ∧ y6 < 8) ∧ ∀ h1, h1 = si h 49 y6 (gi h 47 y7) → R32 (y6 + 1) ∧ Lp_X2_shortestWay_150 d b Q y2 y3 y7 (zand y5 (zxor (zshl 1 y7) (-1))) (y6 + 1) h1)) ∧ (¬(y2 ≤ y8) → (y7 = (-1) → (zand (zshr y5 y8) 1 = 1 → WM GX (d + 1) 0 mX2_stepsBy [vR (some 43), vI y4, vI y8, vI y5, vI y2] h (fun r h3 => ∃ u1, r = some (vI u1) ∧ R32 (y4 * 128) ∧ R32 ((y4 * 128) + y5) ∧ (0 ≤ (y4 * 128) + y5 ∧ (y4 * 128) + y5 < 1024) ∧ (u1 = gi h3 46 ((y4 * 128) + y5) → R32 (y8 + 1) ∧ Lp_X2_shortestWay_162 d b Q y2 y3 y4 y5 y6 y8 (y8 + 1) h3) ∧ (¬(u1 = gi h3 46 ((y4 * 128) + y5)) → R32 (y8 + 1) ∧ Lp_X2_shortestWay_162 d b Q y2 y3 y4 y5 y6 y7 (y8 + 1) h3))) ∧ (¬(zand (zshr y5 y8) 1 = 1) → R32 (y8 + 1) ∧ Lp_X2_shortestWay_162 d b Q y2 y3 y4 y5 y6 y7 (y8 + 1) h)) ∧ (¬(y7 = (-1)) → (y7 = (-1) → Q (some (vI (-1))) h) ∧ (¬(y7 = (-1)) → (0 ≤ y7 ∧ y7 < 7) ∧ (0 ≤ y6 ∧ y6 < 8) ∧ ∀ h2, h2 = si h 49 y6 (gi h 47 y7) → R32 (y6 + 1) ∧ Lp_X2_shortestWay_150 d b Q y2 y3 y7 (zand y5 (zxor (zshl 1 y7) (-1))) (y6 + 1) h2)))) : Lp_X2_shortestWay_162 d b Q y2 y3 y4 y5 y6 y7 y8 h := by
  unfold Lp_X2_shortestWay_162
  refine J_iload rfl dX2_shortestWay_162 ?_
  refine J_iload_n rfl dX2_shortestWay_164 ?_
  refine J_icmp_ge (tgt := 235) dX2_shortestWay_165 (by decide) (fun c => ?_) (fun c => ?_)
  · replace K := K.1 c
    refine J_iload rfl dX2_shortestWay_235 ?_
    refine J_iconst (by decide) dX2_shortestWay_237 ?_
    refine J_icmp_ne (tgt := 243) dX2_shortestWay_238 (by decide) (fun c => ?_) (fun c => ?_)
    · replace K := K.2 c
      refine J_aload_n rfl dX2_shortestWay_243 ?_
      refine J_getS (r := 49) fl_RX2_27 rfl (Or.inl rfl) rfl dX2_shortestWay_244 ?_
      refine J_iload rfl dX2_shortestWay_247 ?_
      refine J_aload_n rfl dX2_shortestWay_249 ?_
      refine J_getS (r := 47) fl_RX2_21 rfl (Or.inl rfl) rfl dX2_shortestWay_250 ?_
      refine J_iload rfl dX2_shortestWay_253 ?_
      refine J_iaload (Or.inl rfl) K.1 dX2_shortestWay_255 ?_
      replace K := K.2
      refine J_iastore (Or.inl rfl) K.1 dX2_shortestWay_256 ?_
      replace K := K.2
      replace K := K _ rfl
      refine J_iload rfl dX2_shortestWay_257 ?_
      refine J_iconst (by decide) dX2_shortestWay_259 ?_
      refine J_iload rfl dX2_shortestWay_260 ?_
      refine J_ishl dX2_shortestWay_262 ?_
      refine J_iconst (by decide) dX2_shortestWay_263 ?_
      refine J_ixor dX2_shortestWay_264 ?_
      refine J_iand dX2_shortestWay_265 ?_
      refine J_istore (loc' := [some (vR (some 43)), none, some (vI y2), some (vI y3), some (vI y4), some (vI (zand y5 (zxor (zshl 1 y7) (-1)))), some (vI y6), some (vI y7), some (vI y8), none]) (by decide) rfl dX2_shortestWay_266 ?_
      refine J_iload rfl dX2_shortestWay_268 ?_
      refine J_istore (loc' := [some (vR (some 43)), none, some (vI y2), some (vI y3), some (vI y7), some (vI (zand y5 (zxor (zshl 1 y7) (-1)))), some (vI y6), some (vI y7), some (vI y8), none]) (by decide) rfl dX2_shortestWay_270 ?_
      refine J_iinc (loc' := [some (vR (some 43)), none, some (vI y2), some (vI y3), some (vI y7), some (vI (zand y5 (zxor (zshl 1 y7) (-1)))), some (vI (y6 + 1)), some (vI y7), some (vI y8), none]) (by decide) rfl K.1 rfl dX2_shortestWay_272 ?_
      replace K := K.2
      refine J_goto (tgt := 150) dX2_shortestWay_275 (by decide) ?_
      exact J_forget (loc' := [some (vR (some 43)), none, some (vI y2), some (vI y3), some (vI y7), some (vI (zand y5 (zxor (zshl 1 y7) (-1)))), some (vI (y6 + 1)), none, none, none]) (And.intro (Or.inr rfl) (And.intro (Or.inl rfl) (And.intro (Or.inr rfl) (And.intro (Or.inr rfl) (And.intro (Or.inr rfl) (And.intro (Or.inr rfl) (And.intro (Or.inr rfl) (And.intro (Or.inl rfl) (And.intro (Or.inl rfl) (And.intro (Or.inl rfl) True.intro)))))))))) K
    · replace K := K.1 c
      refine J_iconst (by decide) dX2_shortestWay_241 ?_
      exact J_ireturn rfl dX2_shortestWay_242 K
  · replace K := K.2 c
    refine J_iload rfl dX2_shortestWay_168 ?_
    refine J_iconst (by decide) dX2_shortestWay_170 ?_
    refine J_icmp_ne (tgt := 235) dX2_shortestWay_171 (by decide) (fun c => ?_) (fun c => ?_)
    · replace K := K.2 c
      refine J_iload rfl dX2_shortestWay_235 ?_
      refine J_iconst (by decide) dX2_shortestWay_237 ?_
      refine J_icmp_ne (tgt := 243) dX2_shortestWay_238 (by decide) (fun c => ?_) (fun c => ?_)
      · replace K := K.2 c
        refine J_aload_n rfl dX2_shortestWay_243 ?_
        refine J_getS (r := 49) fl_RX2_27 rfl (Or.inl rfl) rfl dX2_shortestWay_244 ?_
        refine J_iload rfl dX2_shortestWay_247 ?_
        refine J_aload_n rfl dX2_shortestWay_249 ?_
        refine J_getS (r := 47) fl_RX2_21 rfl (Or.inl rfl) rfl dX2_shortestWay_250 ?_
        refine J_iload rfl dX2_shortestWay_253 ?_
        refine J_iaload (Or.inl rfl) K.1 dX2_shortestWay_255 ?_
        replace K := K.2
        refine J_iastore (Or.inl rfl) K.1 dX2_shortestWay_256 ?_
        replace K := K.2
        replace K := K _ rfl
        refine J_iload rfl dX2_shortestWay_257 ?_
        refine J_iconst (by decide) dX2_shortestWay_259 ?_
        refine J_iload rfl dX2_shortestWay_260 ?_
        refine J_ishl dX2_shortestWay_262 ?_
        refine J_iconst (by decide) dX2_shortestWay_263 ?_
        refine J_ixor dX2_shortestWay_264 ?_
        refine J_iand dX2_shortestWay_265 ?_
        refine J_istore (loc' := [some (vR (some 43)), none, some (vI y2), some (vI y3), some (vI y4), some (vI (zand y5 (zxor (zshl 1 y7) (-1)))), some (vI y6), some (vI y7), some (vI y8), none]) (by decide) rfl dX2_shortestWay_266 ?_
        refine J_iload rfl dX2_shortestWay_268 ?_
        refine J_istore (loc' := [some (vR (some 43)), none, some (vI y2), some (vI y3), some (vI y7), some (vI (zand y5 (zxor (zshl 1 y7) (-1)))), some (vI y6), some (vI y7), some (vI y8), none]) (by decide) rfl dX2_shortestWay_270 ?_
        refine J_iinc (loc' := [some (vR (some 43)), none, some (vI y2), some (vI y3), some (vI y7), some (vI (zand y5 (zxor (zshl 1 y7) (-1)))), some (vI (y6 + 1)), some (vI y7), some (vI y8), none]) (by decide) rfl K.1 rfl dX2_shortestWay_272 ?_
        replace K := K.2
        refine J_goto (tgt := 150) dX2_shortestWay_275 (by decide) ?_
        exact J_forget (loc' := [some (vR (some 43)), none, some (vI y2), some (vI y3), some (vI y7), some (vI (zand y5 (zxor (zshl 1 y7) (-1)))), some (vI (y6 + 1)), none, none, none]) (And.intro (Or.inr rfl) (And.intro (Or.inl rfl) (And.intro (Or.inr rfl) (And.intro (Or.inr rfl) (And.intro (Or.inr rfl) (And.intro (Or.inr rfl) (And.intro (Or.inr rfl) (And.intro (Or.inl rfl) (And.intro (Or.inl rfl) (And.intro (Or.inl rfl) True.intro)))))))))) K
      · replace K := K.1 c
        refine J_iconst (by decide) dX2_shortestWay_241 ?_
        exact J_ireturn rfl dX2_shortestWay_242 K
    · replace K := K.1 c
      refine J_iload rfl dX2_shortestWay_174 ?_
      refine J_iload rfl dX2_shortestWay_176 ?_
      refine J_ishr dX2_shortestWay_178 ?_
      refine J_iconst (by decide) dX2_shortestWay_179 ?_
      refine J_iand dX2_shortestWay_180 ?_
      refine J_iconst (by decide) dX2_shortestWay_181 ?_
      refine J_icmp_ne (tgt := 189) dX2_shortestWay_182 (by decide) (fun c => ?_) (fun c => ?_)
      · replace K := K.2 c
        refine J_iconst (by decide) dX2_shortestWay_189 ?_
        refine J_istore (loc' := [some (vR (some 43)), none, some (vI y2), some (vI y3), some (vI y4), some (vI y5), some (vI y6), some (vI y7), some (vI y8), some (vI 0)]) (by decide) rfl dX2_shortestWay_190 ?_
        refine J_iload rfl dX2_shortestWay_192 ?_
        refine J_if_eq (tgt := 229) dX2_shortestWay_194 (by decide) (fun _ => ?_) (fun c => absurd c (by decide))
        refine J_iinc (loc' := [some (vR (some 43)), none, some (vI y2), some (vI y3), some (vI y4), some (vI y5), some (vI y6), some (vI y7), some (vI (y8 + 1)), some (vI 0)]) (by decide) rfl K.1 rfl dX2_shortestWay_229 ?_
        replace K := K.2
        refine J_goto (tgt := 162) dX2_shortestWay_232 (by decide) ?_
        exact J_forget (loc' := [some (vR (some 43)), none, some (vI y2), some (vI y3), some (vI y4), some (vI y5), some (vI y6), some (vI y7), some (vI (y8 + 1)), none]) (And.intro (Or.inr rfl) (And.intro (Or.inl rfl) (And.intro (Or.inr rfl) (And.intro (Or.inr rfl) (And.intro (Or.inr rfl) (And.intro (Or.inr rfl) (And.intro (Or.inr rfl) (And.intro (Or.inr rfl) (And.intro (Or.inr rfl) (And.intro (Or.inl rfl) True.intro)))))))))) K
      · replace K := K.1 c
        refine J_iconst (by decide) dX2_shortestWay_185 ?_
        refine J_goto (tgt := 190) dX2_shortestWay_186 (by decide) ?_
        refine J_istore (loc' := [some (vR (some 43)), none, some (vI y2), some (vI y3), some (vI y4), some (vI y5), some (vI y6), some (vI y7), some (vI y8), some (vI 1)]) (by decide) rfl dX2_shortestWay_190 ?_
        refine J_iload rfl dX2_shortestWay_192 ?_
        refine J_if_eq (tgt := 229) dX2_shortestWay_194 (by decide) (fun c => absurd c (by decide)) (fun _ => ?_)
        refine J_aload_n rfl dX2_shortestWay_197 ?_
        refine J_iload rfl dX2_shortestWay_198 ?_
        refine J_iload rfl dX2_shortestWay_200 ?_
        refine J_iload rfl dX2_shortestWay_202 ?_
        refine J_iload_n rfl dX2_shortestWay_204 ?_
        refine J_b0 (J_callV (b1 := 0) (ci := 2) (vs := [vI y4, vI y8, vI y5, vI y2]) (rest := []) (Or.inl rfl) ml_RX2_91 rfl (by decide) rfl rfl (Or.inl rfl) (Nat.le_of_ble_eq_true rfl) rfl dX2_shortestWay_205 (WM_mono K (fun r h3 K => ?_)))
        obtain ⟨u1, rfl, K⟩ := K
        show J _ _ _ _ _ _ _ [vI u1] _
        refine J_aload_n rfl dX2_shortestWay_208 ?_
        refine J_getS (r := 46) fl_RX2_18 rfl (Or.inl rfl) rfl dX2_shortestWay_209 ?_
        refine J_iload rfl dX2_shortestWay_212 ?_
        refine J_sipush (by decide) (by decide) dX2_shortestWay_214 ?_
        refine J_imul K.1 dX2_shortestWay_217 ?_
        replace K := K.2
        refine J_iload rfl dX2_shortestWay_218 ?_
        refine J_iadd K.1 dX2_shortestWay_220 ?_
        replace K := K.2
        refine J_iaload (Or.inl rfl) K.1 dX2_shortestWay_221 ?_
        replace K := K.2
        refine J_icmp_ne (tgt := 229) dX2_shortestWay_222 (by decide) (fun c => ?_) (fun c => ?_)
        · replace K := K.2 c
          refine J_iinc (loc' := [some (vR (some 43)), none, some (vI y2), some (vI y3), some (vI y4), some (vI y5), some (vI y6), some (vI y7), some (vI (y8 + 1)), some (vI 1)]) (by decide) rfl K.1 rfl dX2_shortestWay_229 ?_
          replace K := K.2
          refine J_goto (tgt := 162) dX2_shortestWay_232 (by decide) ?_
          exact J_forget (loc' := [some (vR (some 43)), none, some (vI y2), some (vI y3), some (vI y4), some (vI y5), some (vI y6), some (vI y7), some (vI (y8 + 1)), none]) (And.intro (Or.inr rfl) (And.intro (Or.inl rfl) (And.intro (Or.inr rfl) (And.intro (Or.inr rfl) (And.intro (Or.inr rfl) (And.intro (Or.inr rfl) (And.intro (Or.inr rfl) (And.intro (Or.inr rfl) (And.intro (Or.inr rfl) (And.intro (Or.inl rfl) True.intro)))))))))) K
        · replace K := K.1 c
          refine J_iload rfl dX2_shortestWay_225 ?_
          refine J_istore (loc' := [some (vR (some 43)), none, some (vI y2), some (vI y3), some (vI y4), some (vI y5), some (vI y6), some (vI y8), some (vI y8), some (vI 1)]) (by decide) rfl dX2_shortestWay_227 ?_
          refine J_iinc (loc' := [some (vR (some 43)), none, some (vI y2), some (vI y3), some (vI y4), some (vI y5), some (vI y6), some (vI y8), some (vI (y8 + 1)), some (vI 1)]) (by decide) rfl K.1 rfl dX2_shortestWay_229 ?_
          replace K := K.2
          refine J_goto (tgt := 162) dX2_shortestWay_232 (by decide) ?_
          exact J_forget (loc' := [some (vR (some 43)), none, some (vI y2), some (vI y3), some (vI y4), some (vI y5), some (vI y6), some (vI y8), some (vI (y8 + 1)), none]) (And.intro (Or.inr rfl) (And.intro (Or.inl rfl) (And.intro (Or.inr rfl) (And.intro (Or.inr rfl) (And.intro (Or.inr rfl) (And.intro (Or.inr rfl) (And.intro (Or.inr rfl) (And.intro (Or.inr rfl) (And.intro (Or.inr rfl) (And.intro (Or.inl rfl) True.intro)))))))))) K
set_option maxRecDepth 20000 in
set_option maxHeartbeats 2000000 in
theorem l_X2_shortestWay_70 {d b : Nat} {Q : Option AV → AH → Prop} {h : AH}  {y2 : Int} {y3 : Int} {y4 : Int} {y5 : Int} {y6 : Int} {y7 : Int}  (K : (y2 ≤ y7 → R32 (y5 * 128) ∧ R32 ((y5 * 128) + y4) ∧ (0 ≤ (y5 * 128) + y4 ∧ (y5 * 128) + y4 < 1024) ∧ ∀ h1, h1 = si h 46 ((y5 * 128) + y4) y6 → R32 (y5 + 1) ∧ Lp_X2_shortestWay_57 d b Q y2 y3 y4 (y5 + 1) h1) ∧ (¬(y2 ≤ y7) → (zand (zshr y4 y7) 1 = 1 → WM GX (d + 1) 0 mX2_stepsBy [vR (some 43), vI y5, vI y7, vI y4, vI y2] h (fun r h2 => ∃ u2, r = some (vI u2) ∧ R32 (y7 + 1) ∧ Lp_X2_shortestWay_70 d b Q y2 y3 y4 y5 (min y6 u2) (y7 + 1) h2)) ∧ (¬(zand (zshr y4 y7) 1 = 1) → R32 (y7 + 1) ∧ Lp_X2_shortestWay_70 d b Q y2 y3 y4 y5 y6 (y7 + 1) h))) : Lp_X2_shortestWay_70 d b Q y2 y3 y4 y5 y6 y7 h := by
  unfold Lp_X2_shortestWay_70
  refine J_iload rfl dX2_shortestWay_70 ?_
  refine J_iload_n rfl dX2_shortestWay_72 ?_
  refine J_icmp_ge (tgt := 111) dX2_shortestWay_73 (by decide) (fun c => ?_) (fun c => ?_)
  · replace K := K.1 c
    refine J_aload_n rfl dX2_shortestWay_111 ?_
    refine J_getS (r := 46) fl_RX2_18 rfl (Or.inl rfl) rfl dX2_shortestWay_112 ?_
    refine J_iload rfl dX2_shortestWay_115 ?_
    refine J_sipush (by decide) (by decide) dX2_shortestWay_117 ?_
    refine J_imul K.1 dX2_shortestWay_120 ?_
    replace K := K.2
    refine J_iload rfl dX2_shortestWay_121 ?_
    refine J_iadd K.1 dX2_shortestWay_123 ?_
    replace K := K.2
    refine J_iload rfl dX2_shortestWay_124 ?_
    refine J_iastore (Or.inl rfl) K.1 dX2_shortestWay_126 ?_
    replace K := K.2
    replace K := K _ rfl
    refine J_iinc (loc' := [some (vR (some 43)), none, some (vI y2), some (vI y3), some (vI y4), some (vI (y5 + 1)), some (vI y6), some (vI y7), none, none]) (by decide) rfl K.1 rfl dX2_shortestWay_127 ?_
    replace K := K.2
    refine J_goto (tgt := 57) dX2_shortestWay_130 (by decide) ?_
    exact J_forget (loc' := [some (vR (some 43)), none, some (vI y2), some (vI y3), some (vI y4), some (vI (y5 + 1)), none, none, none, none]) (And.intro (Or.inr rfl) (And.intro (Or.inl rfl) (And.intro (Or.inr rfl) (And.intro (Or.inr rfl) (And.intro (Or.inr rfl) (And.intro (Or.inr rfl) (And.intro (Or.inl rfl) (And.intro (Or.inl rfl) (And.intro (Or.inl rfl) (And.intro (Or.inl rfl) True.intro)))))))))) K
  · replace K := K.2 c
    refine J_iload rfl dX2_shortestWay_76 ?_
    refine J_iload rfl dX2_shortestWay_78 ?_
    refine J_ishr dX2_shortestWay_80 ?_
    refine J_iconst (by decide) dX2_shortestWay_81 ?_
    refine J_iand dX2_shortestWay_82 ?_
    refine J_iconst (by decide) dX2_shortestWay_83 ?_
    refine J_icmp_ne (tgt := 105) dX2_shortestWay_84 (by decide) (fun c => ?_) (fun c => ?_)
    · replace K := K.2 c
      refine J_iinc (loc' := [some (vR (some 43)), none, some (vI y2), some (vI y3), some (vI y4), some (vI y5), some (vI y6), some (vI (y7 + 1)), none, none]) (by decide) rfl K.1 rfl dX2_shortestWay_105 ?_
      replace K := K.2
      refine J_goto (tgt := 70) dX2_shortestWay_108 (by decide) ?_
      exact J_forget (loc' := [some (vR (some 43)), none, some (vI y2), some (vI y3), some (vI y4), some (vI y5), some (vI y6), some (vI (y7 + 1)), none, none]) (And.intro (Or.inr rfl) (And.intro (Or.inl rfl) (And.intro (Or.inr rfl) (And.intro (Or.inr rfl) (And.intro (Or.inr rfl) (And.intro (Or.inr rfl) (And.intro (Or.inr rfl) (And.intro (Or.inr rfl) (And.intro (Or.inl rfl) (And.intro (Or.inl rfl) True.intro)))))))))) K
    · replace K := K.1 c
      refine J_iload rfl dX2_shortestWay_87 ?_
      refine J_aload_n rfl dX2_shortestWay_89 ?_
      refine J_iload rfl dX2_shortestWay_90 ?_
      refine J_iload rfl dX2_shortestWay_92 ?_
      refine J_iload rfl dX2_shortestWay_94 ?_
      refine J_iload_n rfl dX2_shortestWay_96 ?_
      refine J_b0 (J_callV (b1 := 0) (ci := 2) (vs := [vI y5, vI y7, vI y4, vI y2]) (rest := [vI y6]) (Or.inl rfl) ml_RX2_91 rfl (by decide) rfl rfl (Or.inl rfl) (Nat.le_of_ble_eq_true rfl) rfl dX2_shortestWay_97 (WM_mono K (fun r h2 K => ?_)))
      obtain ⟨u2, rfl, K⟩ := K
      show J _ _ _ _ _ _ _ [vI u2, vI y6] _
      refine J_mmin ml_RX2_95 (Nat.le_of_ble_eq_true rfl) dX2_shortestWay_100 ?_
      refine J_istore (loc' := [some (vR (some 43)), none, some (vI y2), some (vI y3), some (vI y4), some (vI y5), some (vI (min y6 u2)), some (vI y7), none, none]) (by decide) rfl dX2_shortestWay_103 ?_
      refine J_iinc (loc' := [some (vR (some 43)), none, some (vI y2), some (vI y3), some (vI y4), some (vI y5), some (vI (min y6 u2)), some (vI (y7 + 1)), none, none]) (by decide) rfl K.1 rfl dX2_shortestWay_105 ?_
      replace K := K.2
      refine J_goto (tgt := 70) dX2_shortestWay_108 (by decide) ?_
      exact J_forget (loc' := [some (vR (some 43)), none, some (vI y2), some (vI y3), some (vI y4), some (vI y5), some (vI (min y6 u2)), some (vI (y7 + 1)), none, none]) (And.intro (Or.inr rfl) (And.intro (Or.inl rfl) (And.intro (Or.inr rfl) (And.intro (Or.inr rfl) (And.intro (Or.inr rfl) (And.intro (Or.inr rfl) (And.intro (Or.inr rfl) (And.intro (Or.inr rfl) (And.intro (Or.inl rfl) (And.intro (Or.inl rfl) True.intro)))))))))) K
set_option maxRecDepth 20000 in
set_option maxHeartbeats 2000000 in
theorem w_X2_shortestWay {d b : Nat} {Q : Option AV → AH → Prop} {h : AH} {x1 : Int}  (K : Lp_X2_shortestWay_4 d b Q x1 0 0 h) : WM GX (d + 2) b mX2_shortestWay [vR (some 43), vI x1] h Q := by
  refine WM_introE (loc' := [some (vR (some 43)), some (vI x1), none, none, none, none, none, none, none, none]) rfl (by decide) (Nat.le_of_ble_eq_true rfl) ?_
  refine J_iconst (by decide) dX2_shortestWay_0 ?_
  refine J_istore_n (loc' := [some (vR (some 43)), some (vI x1), some (vI 0), none, none, none, none, none, none, none]) (by decide) rfl dX2_shortestWay_1 ?_
  refine J_iconst (by decide) dX2_shortestWay_2 ?_
  refine J_istore_n (loc' := [some (vR (some 43)), some (vI x1), some (vI 0), some (vI 0), none, none, none, none, none, none]) (by decide) rfl dX2_shortestWay_3 ?_
  exact J_forget (loc' := [some (vR (some 43)), some (vI x1), some (vI 0), some (vI 0), none, none, none, none, none, none]) (And.intro (Or.inr rfl) (And.intro (Or.inr rfl) (And.intro (Or.inr rfl) (And.intro (Or.inr rfl) (And.intro (Or.inl rfl) (And.intro (Or.inl rfl) (And.intro (Or.inl rfl) (And.intro (Or.inl rfl) (And.intro (Or.inl rfl) (And.intro (Or.inl rfl) True.intro)))))))))) K
set_option maxRecDepth 20000 in
set_option maxHeartbeats 2000000 in
theorem w_X7_search {d b : Nat} {Q : Option AV → AH → Prop} {h : AH} {x1 : Int} {x2 : Int}  (K : R32 x1 → R32 x2 → (x1 < 0 → Q (some (vI (-1))) h) ∧ (¬(x1 < 0) → (x1 < 33554432 → ((0 : Int) ≤ x1 ∧ (x1 : Int) < 33554432) ∧ (7 < pcI x1 → Q (some (vI (-1))) h) ∧ (¬(7 < pcI x1) → (x2 < (-1) → Q (some (vI (-1))) h) ∧ (¬(x2 < (-1)) → (x2 < pcI x1 → WM GX (d + 2) 0 mX2_shortestWay [vR (some 43), vI x1] h (fun r h1 => ∃ u1, r = some (vI u1) ∧ (x2 = (-1) → Q (some (vI u1)) h1) ∧ (¬(x2 = (-1)) → (0 ≤ x2 ∧ x2 < 8) ∧ Q (some (vI (gi h1 49 x2))) h1))) ∧ (¬(x2 < pcI x1) → Q (some (vI (-1))) h)))) ∧ (¬(x1 < 33554432) → Q (some (vI (-1))) h))) : WM GX (d + 3) b mX7_search [vR (some 0), vI x1, vI x2] h Q := by
  refine WM_introE (loc' := [some (vR (some 0)), some (vI x1), some (vI x2), none, none]) rfl (by decide) (Nat.le_of_ble_eq_true rfl) ?_
  refine J_rgl (i := 1) rfl (fun r1 => ?_)
  replace K := K r1
  refine J_rgl (i := 2) rfl (fun r2 => ?_)
  replace K := K r2
  refine J_iload_n rfl dX7_search_0 ?_
  refine J_if_lt (tgt := 11) dX7_search_1 (by decide) (fun c => ?_) (fun c => ?_)
  · replace K := K.1 c
    refine J_iconst (by decide) dX7_search_11 ?_
    exact J_ireturn rfl dX7_search_12 K
  · replace K := K.2 c
    refine J_iload_n rfl dX7_search_4 ?_
    refine J_ldcw (n := 33554432) (by decide) (by decide) kc_RX7_270 dX7_search_5 ?_
    refine J_icmp_lt (tgt := 13) dX7_search_8 (by decide) (fun c => ?_) (fun c => ?_)
    · replace K := K.1 c
      refine J_iload_n rfl dX7_search_13 ?_
      refine J_b0 (J_callS (b1 := 0) (vs := [vI x1]) (rest := []) (Or.inl rfl) ml_RX7_244 rfl (by decide) (Nat.le_of_ble_eq_true rfl) rfl dX7_search_14 (c_J6_bitCount  K.1 ?_))
      replace K := K.2
      show J _ _ _ _ _ _ _ [vI (pcI x1)] _
      refine J_istore_n (loc' := [some (vR (some 0)), some (vI x1), some (vI x2), some (vI (pcI x1)), none]) (by decide) rfl dX7_search_17 ?_
      refine J_iload_n rfl dX7_search_18 ?_
      refine J_bipush (by decide) (by decide) dX7_search_19 ?_
      refine J_icmp_gt (tgt := 34) dX7_search_21 (by decide) (fun c => ?_) (fun c => ?_)
      · replace K := K.1 c
        refine J_iconst (by decide) dX7_search_34 ?_
        exact J_ireturn rfl dX7_search_35 K
      · replace K := K.2 c
        refine J_iload_n rfl dX7_search_24 ?_
        refine J_iconst (by decide) dX7_search_25 ?_
        refine J_icmp_lt (tgt := 34) dX7_search_26 (by decide) (fun c => ?_) (fun c => ?_)
        · replace K := K.1 c
          refine J_iconst (by decide) dX7_search_34 ?_
          exact J_ireturn rfl dX7_search_35 K
        · replace K := K.2 c
          refine J_iload_n rfl dX7_search_29 ?_
          refine J_iload_n rfl dX7_search_30 ?_
          refine J_icmp_lt (tgt := 36) dX7_search_31 (by decide) (fun c => ?_) (fun c => ?_)
          · replace K := K.1 c
            refine J_aload_n rfl dX7_search_36 ?_
            refine J_getS (r := 43) fl_RX7_64 rfl (Or.inl rfl) rfl dX7_search_37 ?_
            refine J_iload_n rfl dX7_search_40 ?_
            refine J_b0 (J_callV (b1 := 0) (ci := 2) (vs := [vI x1]) (rest := []) (Or.inr rfl) ml_RX7_271 rfl (by decide) rfl rfl (Or.inl rfl) (Nat.le_of_ble_eq_true rfl) rfl dX7_search_41 (WM_mono K (fun r h1 K => ?_)))
            obtain ⟨u1, rfl, K⟩ := K
            show J _ _ _ _ _ _ _ [vI u1] _
            refine J_istore (loc' := [some (vR (some 0)), some (vI x1), some (vI x2), some (vI (pcI x1)), some (vI u1)]) (by decide) rfl dX7_search_44 ?_
            refine J_iload_n rfl dX7_search_46 ?_
            refine J_iconst (by decide) dX7_search_47 ?_
            refine J_icmp_ne (tgt := 56) dX7_search_48 (by decide) (fun c => ?_) (fun c => ?_)
            · replace K := K.2 c
              refine J_aload_n rfl dX7_search_56 ?_
              refine J_getS (r := 43) fl_RX7_64 rfl (Or.inl rfl) rfl dX7_search_57 ?_
              refine J_getS (r := 49) fl_RX7_257 rfl (Or.inl rfl) rfl dX7_search_60 ?_
              refine J_iload_n rfl dX7_search_63 ?_
              refine J_iaload (Or.inl rfl) K.1 dX7_search_64 ?_
              replace K := K.2
              exact J_ireturn rfl dX7_search_65 K
            · replace K := K.1 c
              refine J_iload rfl dX7_search_51 ?_
              refine J_goto (tgt := 65) dX7_search_53 (by decide) ?_
              exact J_ireturn rfl dX7_search_65 K
          · replace K := K.2 c
            refine J_iconst (by decide) dX7_search_34 ?_
            exact J_ireturn rfl dX7_search_35 K
    · replace K := K.2 c
      refine J_iconst (by decide) dX7_search_11 ?_
      exact J_ireturn rfl dX7_search_12 K
def Lp_X8_isFresh_4 (d b : Nat) (Q : Option AV → AH → Prop)  (y1 : Int) (y2 : Int) (y3 : Int) (h : AH) : Prop := J GM d b mX8_isFresh Q 4 [some (vR (some 0)), some (vI y1), some (vI y2), some (vI y3)] [] h
set_option maxRecDepth 20000 in
set_option maxHeartbeats 2000000 in
theorem l_X8_isFresh_4 {d b : Nat} {Q : Option AV → AH → Prop} {h : AH}  {y1 : Int} {y2 : Int} {y3 : Int}  (K : (y1 ≤ y3 → (y2 = 0 ∨ y2 = 1) ∧ Q (some (vI y2)) h) ∧ (¬(y1 ≤ y3) → (y2 = 0 → R32 (y3 + 1) ∧ Lp_X8_isFresh_4 d b Q y1 0 (y3 + 1) h) ∧ (¬(y2 = 0) → (0 ≤ y3 ∧ y3 < 8) ∧ (0 ≤ y1 ∧ y1 < 8) ∧ (gi h 24 y3 = gi h 24 y1 → R32 (y3 + 1) ∧ Lp_X8_isFresh_4 d b Q y1 0 (y3 + 1) h) ∧ (¬(gi h 24 y3 = gi h 24 y1) → R32 (y3 + 1) ∧ Lp_X8_isFresh_4 d b Q y1 1 (y3 + 1) h)))) : Lp_X8_isFresh_4 d b Q y1 y2 y3 h := by
  unfold Lp_X8_isFresh_4
  refine J_iload_n rfl dX8_isFresh_4 ?_
  refine J_iload_n rfl dX8_isFresh_5 ?_
  refine J_icmp_ge (tgt := 40) dX8_isFresh_6 (by decide) (fun c => ?_) (fun c => ?_)
  · replace K := K.1 c
    refine J_iload_n rfl dX8_isFresh_40 ?_
    exact J_zreturn ⟨rfl, K.1⟩ dX8_isFresh_41 K.2
  · replace K := K.2 c
    refine J_iload_n rfl dX8_isFresh_9 ?_
    refine J_if_eq (tgt := 32) dX8_isFresh_10 (by decide) (fun c => ?_) (fun c => ?_)
    · replace K := K.1 c
      refine J_iconst (by decide) dX8_isFresh_32 ?_
      refine J_istore_n (loc' := [some (vR (some 0)), some (vI y1), some (vI 0), some (vI y3)]) (by decide) rfl dX8_isFresh_33 ?_
      refine J_iinc (loc' := [some (vR (some 0)), some (vI y1), some (vI 0), some (vI (y3 + 1))]) (by decide) rfl K.1 rfl dX8_isFresh_34 ?_
      replace K := K.2
      refine J_goto (tgt := 4) dX8_isFresh_37 (by decide) ?_
      exact J_forget (loc' := [some (vR (some 0)), some (vI y1), some (vI 0), some (vI (y3 + 1))]) (And.intro (Or.inr rfl) (And.intro (Or.inr rfl) (And.intro (Or.inr rfl) (And.intro (Or.inr rfl) True.intro)))) K
    · replace K := K.2 c
      refine J_aload_n rfl dX8_isFresh_13 ?_
      refine J_getS (r := 24) fl_RX8_123 rfl (Or.inl rfl) rfl dX8_isFresh_14 ?_
      refine J_iload_n rfl dX8_isFresh_17 ?_
      refine J_iaload (Or.inl rfl) K.1 dX8_isFresh_18 ?_
      replace K := K.2
      refine J_aload_n rfl dX8_isFresh_19 ?_
      refine J_getS (r := 24) fl_RX8_123 rfl (Or.inl rfl) rfl dX8_isFresh_20 ?_
      refine J_iload_n rfl dX8_isFresh_23 ?_
      refine J_iaload (Or.inl rfl) K.1 dX8_isFresh_24 ?_
      replace K := K.2
      refine J_icmp_eq (tgt := 32) dX8_isFresh_25 (by decide) (fun c => ?_) (fun c => ?_)
      · replace K := K.1 c
        refine J_iconst (by decide) dX8_isFresh_32 ?_
        refine J_istore_n (loc' := [some (vR (some 0)), some (vI y1), some (vI 0), some (vI y3)]) (by decide) rfl dX8_isFresh_33 ?_
        refine J_iinc (loc' := [some (vR (some 0)), some (vI y1), some (vI 0), some (vI (y3 + 1))]) (by decide) rfl K.1 rfl dX8_isFresh_34 ?_
        replace K := K.2
        refine J_goto (tgt := 4) dX8_isFresh_37 (by decide) ?_
        exact J_forget (loc' := [some (vR (some 0)), some (vI y1), some (vI 0), some (vI (y3 + 1))]) (And.intro (Or.inr rfl) (And.intro (Or.inr rfl) (And.intro (Or.inr rfl) (And.intro (Or.inr rfl) True.intro)))) K
      · replace K := K.2 c
        refine J_iconst (by decide) dX8_isFresh_28 ?_
        refine J_goto (tgt := 33) dX8_isFresh_29 (by decide) ?_
        refine J_istore_n (loc' := [some (vR (some 0)), some (vI y1), some (vI 1), some (vI y3)]) (by decide) rfl dX8_isFresh_33 ?_
        refine J_iinc (loc' := [some (vR (some 0)), some (vI y1), some (vI 1), some (vI (y3 + 1))]) (by decide) rfl K.1 rfl dX8_isFresh_34 ?_
        replace K := K.2
        refine J_goto (tgt := 4) dX8_isFresh_37 (by decide) ?_
        exact J_forget (loc' := [some (vR (some 0)), some (vI y1), some (vI 1), some (vI (y3 + 1))]) (And.intro (Or.inr rfl) (And.intro (Or.inr rfl) (And.intro (Or.inr rfl) (And.intro (Or.inr rfl) True.intro)))) K
set_option maxRecDepth 20000 in
set_option maxHeartbeats 2000000 in
theorem w_X8_isFresh {d b : Nat} {Q : Option AV → AH → Prop} {h : AH} {x1 : Int}  (K : Lp_X8_isFresh_4 d b Q x1 1 0 h) : WM GM d b mX8_isFresh [vR (some 0), vI x1] h Q := by
  refine WM_introE (loc' := [some (vR (some 0)), some (vI x1), none, none]) rfl (by decide) (Nat.le_of_ble_eq_true rfl) ?_
  refine J_iconst (by decide) dX8_isFresh_0 ?_
  refine J_istore_n (loc' := [some (vR (some 0)), some (vI x1), some (vI 1), none]) (by decide) rfl dX8_isFresh_1 ?_
  refine J_iconst (by decide) dX8_isFresh_2 ?_
  refine J_istore_n (loc' := [some (vR (some 0)), some (vI x1), some (vI 1), some (vI 0)]) (by decide) rfl dX8_isFresh_3 ?_
  exact J_forget (loc' := [some (vR (some 0)), some (vI x1), some (vI 1), some (vI 0)]) (And.intro (Or.inr rfl) (And.intro (Or.inr rfl) (And.intro (Or.inr rfl) (And.intro (Or.inr rfl) True.intro)))) K
def Lp_X8_stepsOf_7 (d b : Nat) (Q : Option AV → AH → Prop)  (y1 : Int) (y2 : Int) (y3 : Int) (y4 : Int) (h : AH) : Prop := J GM (d + 1) b mX8_stepsOf Q 7 [some (vR (some 0)), some (vI y1), some (vI y2), some (vI y3), some (vI y4)] [] h
set_option maxRecDepth 20000 in
set_option maxHeartbeats 2000000 in
theorem l_X8_stepsOf_7 {d b : Nat} {Q : Option AV → AH → Prop} {h : AH}  {y1 : Int} {y2 : Int} {y3 : Int} {y4 : Int}  (K : (y1 ≤ y4 → Q (some (vI y3)) h) ∧ (¬(y1 ≤ y4) → (0 ≤ y4 ∧ y4 < 8) ∧ (0 ≤ gi h 24 y4 ∧ gi h 24 y4 < 25) ∧ WM GM d 0 mX8_steps [vI y2, vI (gi h 23 (gi h 24 y4))] h (fun r h1 => ∃ u1, r = some (vI u1) ∧ R32 (y3 + u1) ∧ (0 ≤ y4 ∧ y4 < 8) ∧ (0 ≤ gi h1 24 y4 ∧ gi h1 24 y4 < 25) ∧ R32 (y4 + 1) ∧ Lp_X8_stepsOf_7 d b Q y1 (gi h1 23 (gi h1 24 y4)) (y3 + u1) (y4 + 1) h1))) : Lp_X8_stepsOf_7 d b Q y1 y2 y3 y4 h := by
  unfold Lp_X8_stepsOf_7
  refine J_iload rfl dX8_stepsOf_7 ?_
  refine J_iload_n rfl dX8_stepsOf_9 ?_
  refine J_icmp_ge (tgt := 51) dX8_stepsOf_10 (by decide) (fun c => ?_) (fun c => ?_)
  · replace K := K.1 c
    refine J_iload_n rfl dX8_stepsOf_51 ?_
    exact J_ireturn rfl dX8_stepsOf_52 K
  · replace K := K.2 c
    refine J_iload_n rfl dX8_stepsOf_13 ?_
    refine J_iload_n rfl dX8_stepsOf_14 ?_
    refine J_aload_n rfl dX8_stepsOf_15 ?_
    refine J_getS (r := 23) fl_RX8_120 rfl (Or.inl rfl) rfl dX8_stepsOf_16 ?_
    refine J_aload_n rfl dX8_stepsOf_19 ?_
    refine J_getS (r := 24) fl_RX8_123 rfl (Or.inl rfl) rfl dX8_stepsOf_20 ?_
    refine J_iload rfl dX8_stepsOf_23 ?_
    refine J_iaload (Or.inl rfl) K.1 dX8_stepsOf_25 ?_
    replace K := K.2
    refine J_iaload (Or.inl rfl) K.1 dX8_stepsOf_26 ?_
    replace K := K.2
    refine J_b0 (J_callS (b1 := 0) (vs := [vI y2, vI (gi h 23 (gi h 24 y4))]) (rest := [vI y3]) (Or.inl rfl) ml_RX8_493 rfl (by decide) (Nat.le_of_ble_eq_true rfl) rfl dX8_stepsOf_27 (WM_mono K (fun r h1 K => ?_)))
    obtain ⟨u1, rfl, K⟩ := K
    show J _ _ _ _ _ _ _ [vI u1, vI y3] _
    refine J_iadd K.1 dX8_stepsOf_30 ?_
    replace K := K.2
    refine J_istore_n (loc' := [some (vR (some 0)), some (vI y1), some (vI y2), some (vI (y3 + u1)), some (vI y4)]) (by decide) rfl dX8_stepsOf_31 ?_
    refine J_aload_n rfl dX8_stepsOf_32 ?_
    refine J_getS (r := 23) fl_RX8_120 rfl (Or.inl rfl) rfl dX8_stepsOf_33 ?_
    refine J_aload_n rfl dX8_stepsOf_36 ?_
    refine J_getS (r := 24) fl_RX8_123 rfl (Or.inl rfl) rfl dX8_stepsOf_37 ?_
    refine J_iload rfl dX8_stepsOf_40 ?_
    refine J_iaload (Or.inl rfl) K.1 dX8_stepsOf_42 ?_
    replace K := K.2
    refine J_iaload (Or.inl rfl) K.1 dX8_stepsOf_43 ?_
    replace K := K.2
    refine J_istore_n (loc' := [some (vR (some 0)), some (vI y1), some (vI _), some (vI (y3 + u1)), some (vI y4)]) (by decide) rfl dX8_stepsOf_44 ?_
    refine J_iinc (loc' := [some (vR (some 0)), some (vI y1), some (vI _), some (vI (y3 + u1)), some (vI (y4 + 1))]) (by decide) rfl K.1 rfl dX8_stepsOf_45 ?_
    replace K := K.2
    refine J_goto (tgt := 7) dX8_stepsOf_48 (by decide) ?_
    exact J_forget (loc' := [some (vR (some 0)), some (vI y1), some (vI _), some (vI (y3 + u1)), some (vI (y4 + 1))]) (And.intro (Or.inr rfl) (And.intro (Or.inr rfl) (And.intro (Or.inr rfl) (And.intro (Or.inr rfl) (And.intro (Or.inr rfl) True.intro))))) K
set_option maxRecDepth 20000 in
set_option maxHeartbeats 2000000 in
theorem w_X8_stepsOf {d b : Nat} {Q : Option AV → AH → Prop} {h : AH} {x1 : Int}  (K : Lp_X8_stepsOf_7 d b Q x1 0 0 0 h) : WM GM (d + 1) b mX8_stepsOf [vR (some 0), vI x1] h Q := by
  refine WM_introE (loc' := [some (vR (some 0)), some (vI x1), none, none, none]) rfl (by decide) (Nat.le_of_ble_eq_true rfl) ?_
  refine J_iconst (by decide) dX8_stepsOf_0 ?_
  refine J_istore_n (loc' := [some (vR (some 0)), some (vI x1), some (vI 0), none, none]) (by decide) rfl dX8_stepsOf_1 ?_
  refine J_iconst (by decide) dX8_stepsOf_2 ?_
  refine J_istore_n (loc' := [some (vR (some 0)), some (vI x1), some (vI 0), some (vI 0), none]) (by decide) rfl dX8_stepsOf_3 ?_
  refine J_iconst (by decide) dX8_stepsOf_4 ?_
  refine J_istore (loc' := [some (vR (some 0)), some (vI x1), some (vI 0), some (vI 0), some (vI 0)]) (by decide) rfl dX8_stepsOf_5 ?_
  exact J_forget (loc' := [some (vR (some 0)), some (vI x1), some (vI 0), some (vI 0), some (vI 0)]) (And.intro (Or.inr rfl) (And.intro (Or.inr rfl) (And.intro (Or.inr rfl) (And.intro (Or.inr rfl) (And.intro (Or.inr rfl) True.intro))))) K
def Lp_X8_findSearch_29 (d b : Nat) (Q : Option AV → AH → Prop)  (y1 : Int) (y2 : Int) (y3 : Int) (h : AH) : Prop := J GM (d + 2) b mX8_findSearch Q 29 [some (vR (some 0)), some (vI y1), some (vI y2), some (vI y3), none, none] [] h
def Lp_X8_findSearch_84 (d b : Nat) (Q : Option AV → AH → Prop)  (y1 : Int) (y2 : Int) (y3 : Int) (y4 : Int) (y5 : Int) (h : AH) : Prop := J GM (d + 2) b mX8_findSearch Q 84 [some (vR (some 0)), some (vI y1), some (vI y2), some (vI y3), some (vI y4), some (vI y5)] [] h
set_option maxRecDepth 20000 in
set_option maxHeartbeats 2000000 in
theorem l_X8_findSearch_29 {d b : Nat} {Q : Option AV → AH → Prop} {h : AH}  {y1 : Int} {y2 : Int} {y3 : Int}  (K : (y3 < 0 → Q (some (vI y2)) h) ∧ (¬(y3 < 0) → (0 ≤ y3 ∧ y3 < 8) ∧ R32 ((gi h 24 y3) + 1) ∧ (0 ≤ y3 ∧ y3 < 8) ∧ ∀ h1, h1 = si h 24 y3 ((gi h 24 y3) + 1) → (0 ≤ y3 ∧ y3 < 8) ∧ ((gi h 24 y3) + 1 = y1 → R32 (y3 + (-1)) ∧ Lp_X8_findSearch_29 d b Q y1 y2 (y3 + (-1)) h1) ∧ (¬((gi h 24 y3) + 1 = y1) → WM GM (d + 1) 0 mX8_isFresh [vR (some 0), vI y3] h1 (fun r h2 => ∃ u1, r = some (vI u1) ∧ (u1 = 0 → Lp_X8_findSearch_29 d b Q y1 y2 y3 h2) ∧ (¬(u1 = 0) → R32 (y1 - 1) ∧ (y3 = y1 - 1 → WM GM (d + 1) 0 mX8_stepsOf [vR (some 0), vI y1] h2 (fun r h4 => ∃ u2, r = some (vI u2) ∧ Lp_X8_findSearch_84 d b Q y1 y2 y3 u2 0 h4)) ∧ (¬(y3 = y1 - 1) → R32 (y3 + 1) ∧ (0 ≤ y3 + 1 ∧ y3 + 1 < 8) ∧ ∀ h3, h3 = si h2 24 (y3 + 1) (-1) → Lp_X8_findSearch_29 d b Q y1 y2 (y3 + 1) h3)))))) : Lp_X8_findSearch_29 d b Q y1 y2 y3 h := by
  unfold Lp_X8_findSearch_29
  refine J_iload_n rfl dX8_findSearch_29 ?_
  refine J_if_lt (tgt := 150) dX8_findSearch_30 (by decide) (fun c => ?_) (fun c => ?_)
  · replace K := K.1 c
    refine J_iload_n rfl dX8_findSearch_150 ?_
    exact J_ireturn rfl dX8_findSearch_151 K
  · replace K := K.2 c
    refine J_aload_n rfl dX8_findSearch_33 ?_
    refine J_getS (r := 24) fl_RX8_123 rfl (Or.inl rfl) rfl dX8_findSearch_34 ?_
    refine J_iload_n rfl dX8_findSearch_37 ?_
    refine J_dup2 rfl rfl dX8_findSearch_38 ?_
    refine J_iaload (Or.inl rfl) K.1 dX8_findSearch_39 ?_
    replace K := K.2
    refine J_iconst (by decide) dX8_findSearch_40 ?_
    refine J_iadd K.1 dX8_findSearch_41 ?_
    replace K := K.2
    refine J_iastore (Or.inl rfl) K.1 dX8_findSearch_42 ?_
    replace K := K.2
    replace K := K _ rfl
    refine J_aload_n rfl dX8_findSearch_43 ?_
    refine J_getS (r := 24) fl_RX8_123 rfl (Or.inl rfl) rfl dX8_findSearch_44 ?_
    refine J_iload_n rfl dX8_findSearch_47 ?_
    refine J_ialoade (Or.inl rfl) K.1 gi_eq dX8_findSearch_48 ?_
    replace K := K.2
    refine J_iload_n rfl dX8_findSearch_49 ?_
    refine J_icmp_ne (tgt := 59) dX8_findSearch_50 (by decide) (fun c => ?_) (fun c => ?_)
    · replace K := K.2 c
      refine J_aload_n rfl dX8_findSearch_59 ?_
      refine J_iload_n rfl dX8_findSearch_60 ?_
      refine J_b0 (J_callV (b1 := 0) (ci := 8) (vs := [vI y3]) (rest := []) (Or.inl rfl) ml_RX8_496 rfl (by decide) rfl rfl (Or.inl rfl) (Nat.le_of_ble_eq_true rfl) rfl dX8_findSearch_61 (WM_mono K (fun r h2 K => ?_)))
      obtain ⟨u1, rfl, K⟩ := K
      show J _ _ _ _ _ _ _ [vI u1] _
      refine J_if_eq (tgt := 29) dX8_findSearch_64 (by decide) (fun c => ?_) (fun c => ?_)
      · replace K := K.1 c
        exact J_forget (loc' := [some (vR (some 0)), some (vI y1), some (vI y2), some (vI y3), none, none]) (And.intro (Or.inr rfl) (And.intro (Or.inr rfl) (And.intro (Or.inr rfl) (And.intro (Or.inr rfl) (And.intro (Or.inl rfl) (And.intro (Or.inl rfl) True.intro)))))) K
      · replace K := K.2 c
        refine J_iload_n rfl dX8_findSearch_67 ?_
        refine J_iload_n rfl dX8_findSearch_68 ?_
        refine J_iconst (by decide) dX8_findSearch_69 ?_
        refine J_isub K.1 dX8_findSearch_70 ?_
        replace K := K.2
        refine J_icmp_ne (tgt := 137) dX8_findSearch_71 (by decide) (fun c => ?_) (fun c => ?_)
        · replace K := K.2 c
          refine J_iinc (loc' := [some (vR (some 0)), some (vI y1), some (vI y2), some (vI (y3 + 1)), none, none]) (by decide) rfl K.1 rfl dX8_findSearch_137 ?_
          replace K := K.2
          refine J_aload_n rfl dX8_findSearch_140 ?_
          refine J_getS (r := 24) fl_RX8_123 rfl (Or.inl rfl) rfl dX8_findSearch_141 ?_
          refine J_iload_n rfl dX8_findSearch_144 ?_
          refine J_iconst (by decide) dX8_findSearch_145 ?_
          refine J_iastore (Or.inl rfl) K.1 dX8_findSearch_146 ?_
          replace K := K.2
          replace K := K _ rfl
          refine J_goto (tgt := 29) dX8_findSearch_147 (by decide) ?_
          exact J_forget (loc' := [some (vR (some 0)), some (vI y1), some (vI y2), some (vI (y3 + 1)), none, none]) (And.intro (Or.inr rfl) (And.intro (Or.inr rfl) (And.intro (Or.inr rfl) (And.intro (Or.inr rfl) (And.intro (Or.inl rfl) (And.intro (Or.inl rfl) True.intro)))))) K
        · replace K := K.1 c
          refine J_aload_n rfl dX8_findSearch_74 ?_
          refine J_iload_n rfl dX8_findSearch_75 ?_
          refine J_b0 (J_callV (b1 := 0) (ci := 8) (vs := [vI y1]) (rest := []) (Or.inl rfl) ml_RX8_499 rfl (by decide) rfl rfl (Or.inl rfl) (Nat.le_of_ble_eq_true rfl) rfl dX8_findSearch_76 (WM_mono K (fun r h4 K => ?_)))
          obtain ⟨u2, rfl, K⟩ := K
          show J _ _ _ _ _ _ _ [vI u2] _
          refine J_istore (loc' := [some (vR (some 0)), some (vI y1), some (vI y2), some (vI y3), some (vI u2), none]) (by decide) rfl dX8_findSearch_79 ?_
          refine J_iconst (by decide) dX8_findSearch_81 ?_
          refine J_istore (loc' := [some (vR (some 0)), some (vI y1), some (vI y2), some (vI y3), some (vI u2), some (vI 0)]) (by decide) rfl dX8_findSearch_82 ?_
          exact J_forget (loc' := [some (vR (some 0)), some (vI y1), some (vI y2), some (vI y3), some (vI u2), some (vI 0)]) (And.intro (Or.inr rfl) (And.intro (Or.inr rfl) (And.intro (Or.inr rfl) (And.intro (Or.inr rfl) (And.intro (Or.inr rfl) (And.intro (Or.inr rfl) True.intro)))))) K
    · replace K := K.1 c
      refine J_iinc (loc' := [some (vR (some 0)), some (vI y1), some (vI y2), some (vI (y3 + (-1))), none, none]) (by decide) rfl K.1 rfl dX8_findSearch_53 ?_
      replace K := K.2
      refine J_goto (tgt := 29) dX8_findSearch_56 (by decide) ?_
      exact J_forget (loc' := [some (vR (some 0)), some (vI y1), some (vI y2), some (vI (y3 + (-1))), none, none]) (And.intro (Or.inr rfl) (And.intro (Or.inr rfl) (And.intro (Or.inr rfl) (And.intro (Or.inr rfl) (And.intro (Or.inl rfl) (And.intro (Or.inl rfl) True.intro)))))) K
set_option maxRecDepth 20000 in
set_option maxHeartbeats 2000000 in
theorem l_X8_findSearch_84 {d b : Nat} {Q : Option AV → AH → Prop} {h : AH}  {y1 : Int} {y2 : Int} {y3 : Int} {y4 : Int} {y5 : Int}  (K : (y1 ≤ y5 → (y2 ≤ y4 → Lp_X8_findSearch_29 d b Q y1 y2 y3 h) ∧ (¬(y2 ≤ y4) → Lp_X8_findSearch_29 d b Q y1 y4 y3 h)) ∧ (¬(y1 ≤ y5) → (y2 ≤ y4 → (y2 ≤ y4 → Lp_X8_findSearch_29 d b Q y1 y2 y3 h) ∧ (¬(y2 ≤ y4) → Lp_X8_findSearch_29 d b Q y1 y4 y3 h)) ∧ (¬(y2 ≤ y4) → (0 ≤ y5 ∧ y5 < 8) ∧ (0 ≤ gi h 24 y5 ∧ gi h 24 y5 < 25) ∧ (0 ≤ y5 ∧ y5 < 7) ∧ ∀ h1, h1 = si h 25 y5 (gi h 23 (gi h 24 y5)) → R32 (y5 + 1) ∧ Lp_X8_findSearch_84 d b Q y1 y2 y3 y4 (y5 + 1) h1))) : Lp_X8_findSearch_84 d b Q y1 y2 y3 y4 y5 h := by
  unfold Lp_X8_findSearch_84
  refine J_iload rfl dX8_findSearch_84 ?_
  refine J_iload_n rfl dX8_findSearch_86 ?_
  refine J_icmp_ge (tgt := 121) dX8_findSearch_87 (by decide) (fun c => ?_) (fun c => ?_)
  · replace K := K.1 c
    refine J_iload rfl dX8_findSearch_121 ?_
    refine J_iload_n rfl dX8_findSearch_123 ?_
    refine J_icmp_ge (tgt := 132) dX8_findSearch_124 (by decide) (fun c => ?_) (fun c => ?_)
    · replace K := K.1 c
      refine J_iload_n rfl dX8_findSearch_132 ?_
      refine J_istore_n (loc' := [some (vR (some 0)), some (vI y1), some (vI y2), some (vI y3), some (vI y4), some (vI y5)]) (by decide) rfl dX8_findSearch_133 ?_
      refine J_goto (tgt := 29) dX8_findSearch_134 (by decide) ?_
      exact J_forget (loc' := [some (vR (some 0)), some (vI y1), some (vI y2), some (vI y3), none, none]) (And.intro (Or.inr rfl) (And.intro (Or.inr rfl) (And.intro (Or.inr rfl) (And.intro (Or.inr rfl) (And.intro (Or.inl rfl) (And.intro (Or.inl rfl) True.intro)))))) K
    · replace K := K.2 c
      refine J_iload rfl dX8_findSearch_127 ?_
      refine J_goto (tgt := 133) dX8_findSearch_129 (by decide) ?_
      refine J_istore_n (loc' := [some (vR (some 0)), some (vI y1), some (vI y4), some (vI y3), some (vI y4), some (vI y5)]) (by decide) rfl dX8_findSearch_133 ?_
      refine J_goto (tgt := 29) dX8_findSearch_134 (by decide) ?_
      exact J_forget (loc' := [some (vR (some 0)), some (vI y1), some (vI y4), some (vI y3), none, none]) (And.intro (Or.inr rfl) (And.intro (Or.inr rfl) (And.intro (Or.inr rfl) (And.intro (Or.inr rfl) (And.intro (Or.inl rfl) (And.intro (Or.inl rfl) True.intro)))))) K
  · replace K := K.2 c
    refine J_iload rfl dX8_findSearch_90 ?_
    refine J_iload_n rfl dX8_findSearch_92 ?_
    refine J_icmp_ge (tgt := 121) dX8_findSearch_93 (by decide) (fun c => ?_) (fun c => ?_)
    · replace K := K.1 c
      refine J_iload rfl dX8_findSearch_121 ?_
      refine J_iload_n rfl dX8_findSearch_123 ?_
      refine J_icmp_ge (tgt := 132) dX8_findSearch_124 (by decide) (fun c => ?_) (fun c => ?_)
      · replace K := K.1 c
        refine J_iload_n rfl dX8_findSearch_132 ?_
        refine J_istore_n (loc' := [some (vR (some 0)), some (vI y1), some (vI y2), some (vI y3), some (vI y4), some (vI y5)]) (by decide) rfl dX8_findSearch_133 ?_
        refine J_goto (tgt := 29) dX8_findSearch_134 (by decide) ?_
        exact J_forget (loc' := [some (vR (some 0)), some (vI y1), some (vI y2), some (vI y3), none, none]) (And.intro (Or.inr rfl) (And.intro (Or.inr rfl) (And.intro (Or.inr rfl) (And.intro (Or.inr rfl) (And.intro (Or.inl rfl) (And.intro (Or.inl rfl) True.intro)))))) K
      · replace K := K.2 c
        refine J_iload rfl dX8_findSearch_127 ?_
        refine J_goto (tgt := 133) dX8_findSearch_129 (by decide) ?_
        refine J_istore_n (loc' := [some (vR (some 0)), some (vI y1), some (vI y4), some (vI y3), some (vI y4), some (vI y5)]) (by decide) rfl dX8_findSearch_133 ?_
        refine J_goto (tgt := 29) dX8_findSearch_134 (by decide) ?_
        exact J_forget (loc' := [some (vR (some 0)), some (vI y1), some (vI y4), some (vI y3), none, none]) (And.intro (Or.inr rfl) (And.intro (Or.inr rfl) (And.intro (Or.inr rfl) (And.intro (Or.inr rfl) (And.intro (Or.inl rfl) (And.intro (Or.inl rfl) True.intro)))))) K
    · replace K := K.2 c
      refine J_aload_n rfl dX8_findSearch_96 ?_
      refine J_getS (r := 25) fl_RX8_126 rfl (Or.inl rfl) rfl dX8_findSearch_97 ?_
      refine J_iload rfl dX8_findSearch_100 ?_
      refine J_aload_n rfl dX8_findSearch_102 ?_
      refine J_getS (r := 23) fl_RX8_120 rfl (Or.inl rfl) rfl dX8_findSearch_103 ?_
      refine J_aload_n rfl dX8_findSearch_106 ?_
      refine J_getS (r := 24) fl_RX8_123 rfl (Or.inl rfl) rfl dX8_findSearch_107 ?_
      refine J_iload rfl dX8_findSearch_110 ?_
      refine J_iaload (Or.inl rfl) K.1 dX8_findSearch_112 ?_
      replace K := K.2
      refine J_iaload (Or.inl rfl) K.1 dX8_findSearch_113 ?_
      replace K := K.2
      refine J_iastore (Or.inl rfl) K.1 dX8_findSearch_114 ?_
      replace K := K.2
      replace K := K _ rfl
      refine J_iinc (loc' := [some (vR (some 0)), some (vI y1), some (vI y2), some (vI y3), some (vI y4), some (vI (y5 + 1))]) (by decide) rfl K.1 rfl dX8_findSearch_115 ?_
      replace K := K.2
      refine J_goto (tgt := 84) dX8_findSearch_118 (by decide) ?_
      exact J_forget (loc' := [some (vR (some 0)), some (vI y1), some (vI y2), some (vI y3), some (vI y4), some (vI (y5 + 1))]) (And.intro (Or.inr rfl) (And.intro (Or.inr rfl) (And.intro (Or.inr rfl) (And.intro (Or.inr rfl) (And.intro (Or.inr rfl) (And.intro (Or.inr rfl) True.intro)))))) K
set_option maxRecDepth 20000 in
set_option maxHeartbeats 2000000 in
theorem w_X8_findSearch {d b : Nat} {Q : Option AV → AH → Prop} {h : AH} {x1 : Int}  (K : (x1 = 0 → (x1 = 0 → ∀ h4, h4 = si h 24 0 (-1) → Lp_X8_findSearch_29 d b Q x1 0 (-1) h4) ∧ (¬(x1 = 0) → ∀ h3, h3 = si h 24 0 (-1) → Lp_X8_findSearch_29 d b Q x1 0 0 h3)) ∧ (¬(x1 = 0) → (x1 = 0 → ∀ h2, h2 = si h 24 0 (-1) → Lp_X8_findSearch_29 d b Q x1 100000000 (-1) h2) ∧ (¬(x1 = 0) → ∀ h1, h1 = si h 24 0 (-1) → Lp_X8_findSearch_29 d b Q x1 100000000 0 h1))) : WM GM (d + 2) b mX8_findSearch [vR (some 0), vI x1] h Q := by
  refine WM_introE (loc' := [some (vR (some 0)), some (vI x1), none, none, none, none]) rfl (by decide) (Nat.le_of_ble_eq_true rfl) ?_
  refine J_iload_n rfl dX8_findSearch_0 ?_
  refine J_if_ne (tgt := 8) dX8_findSearch_1 (by decide) (fun c => ?_) (fun c => ?_)
  · replace K := K.2 c
    refine J_ldcw (n := 100000000) (by decide) (by decide) kc_RX8_470 dX8_findSearch_8 ?_
    refine J_istore_n (loc' := [some (vR (some 0)), some (vI x1), some (vI 100000000), none, none, none]) (by decide) rfl dX8_findSearch_11 ?_
    refine J_iload_n rfl dX8_findSearch_12 ?_
    refine J_if_ne (tgt := 20) dX8_findSearch_13 (by decide) (fun c => ?_) (fun c => ?_)
    · replace K := K.2 c
      refine J_iconst (by decide) dX8_findSearch_20 ?_
      refine J_istore_n (loc' := [some (vR (some 0)), some (vI x1), some (vI 100000000), some (vI 0), none, none]) (by decide) rfl dX8_findSearch_21 ?_
      refine J_aload_n rfl dX8_findSearch_22 ?_
      refine J_getS (r := 24) fl_RX8_123 rfl (Or.inl rfl) rfl dX8_findSearch_23 ?_
      refine J_iconst (by decide) dX8_findSearch_26 ?_
      refine J_iconst (by decide) dX8_findSearch_27 ?_
      refine J_iastore (Or.inl rfl) (by decide) dX8_findSearch_28 ?_
      replace K := K _ rfl
      exact J_forget (loc' := [some (vR (some 0)), some (vI x1), some (vI 100000000), some (vI 0), none, none]) (And.intro (Or.inr rfl) (And.intro (Or.inr rfl) (And.intro (Or.inr rfl) (And.intro (Or.inr rfl) (And.intro (Or.inl rfl) (And.intro (Or.inl rfl) True.intro)))))) K
    · replace K := K.1 c
      refine J_iconst (by decide) dX8_findSearch_16 ?_
      refine J_goto (tgt := 21) dX8_findSearch_17 (by decide) ?_
      refine J_istore_n (loc' := [some (vR (some 0)), some (vI x1), some (vI 100000000), some (vI (-1)), none, none]) (by decide) rfl dX8_findSearch_21 ?_
      refine J_aload_n rfl dX8_findSearch_22 ?_
      refine J_getS (r := 24) fl_RX8_123 rfl (Or.inl rfl) rfl dX8_findSearch_23 ?_
      refine J_iconst (by decide) dX8_findSearch_26 ?_
      refine J_iconst (by decide) dX8_findSearch_27 ?_
      refine J_iastore (Or.inl rfl) (by decide) dX8_findSearch_28 ?_
      replace K := K _ rfl
      exact J_forget (loc' := [some (vR (some 0)), some (vI x1), some (vI 100000000), some (vI (-1)), none, none]) (And.intro (Or.inr rfl) (And.intro (Or.inr rfl) (And.intro (Or.inr rfl) (And.intro (Or.inr rfl) (And.intro (Or.inl rfl) (And.intro (Or.inl rfl) True.intro)))))) K
  · replace K := K.1 c
    refine J_iconst (by decide) dX8_findSearch_4 ?_
    refine J_goto (tgt := 11) dX8_findSearch_5 (by decide) ?_
    refine J_istore_n (loc' := [some (vR (some 0)), some (vI x1), some (vI 0), none, none, none]) (by decide) rfl dX8_findSearch_11 ?_
    refine J_iload_n rfl dX8_findSearch_12 ?_
    refine J_if_ne (tgt := 20) dX8_findSearch_13 (by decide) (fun c => ?_) (fun c => ?_)
    · replace K := K.2 c
      refine J_iconst (by decide) dX8_findSearch_20 ?_
      refine J_istore_n (loc' := [some (vR (some 0)), some (vI x1), some (vI 0), some (vI 0), none, none]) (by decide) rfl dX8_findSearch_21 ?_
      refine J_aload_n rfl dX8_findSearch_22 ?_
      refine J_getS (r := 24) fl_RX8_123 rfl (Or.inl rfl) rfl dX8_findSearch_23 ?_
      refine J_iconst (by decide) dX8_findSearch_26 ?_
      refine J_iconst (by decide) dX8_findSearch_27 ?_
      refine J_iastore (Or.inl rfl) (by decide) dX8_findSearch_28 ?_
      replace K := K _ rfl
      exact J_forget (loc' := [some (vR (some 0)), some (vI x1), some (vI 0), some (vI 0), none, none]) (And.intro (Or.inr rfl) (And.intro (Or.inr rfl) (And.intro (Or.inr rfl) (And.intro (Or.inr rfl) (And.intro (Or.inl rfl) (And.intro (Or.inl rfl) True.intro)))))) K
    · replace K := K.1 c
      refine J_iconst (by decide) dX8_findSearch_16 ?_
      refine J_goto (tgt := 21) dX8_findSearch_17 (by decide) ?_
      refine J_istore_n (loc' := [some (vR (some 0)), some (vI x1), some (vI 0), some (vI (-1)), none, none]) (by decide) rfl dX8_findSearch_21 ?_
      refine J_aload_n rfl dX8_findSearch_22 ?_
      refine J_getS (r := 24) fl_RX8_123 rfl (Or.inl rfl) rfl dX8_findSearch_23 ?_
      refine J_iconst (by decide) dX8_findSearch_26 ?_
      refine J_iconst (by decide) dX8_findSearch_27 ?_
      refine J_iastore (Or.inl rfl) (by decide) dX8_findSearch_28 ?_
      replace K := K _ rfl
      exact J_forget (loc' := [some (vR (some 0)), some (vI x1), some (vI 0), some (vI (-1)), none, none]) (And.intro (Or.inr rfl) (And.intro (Or.inr rfl) (And.intro (Or.inr rfl) (And.intro (Or.inr rfl) (And.intro (Or.inl rfl) (And.intro (Or.inl rfl) True.intro)))))) K
def Lp_X8_search_51 (d b : Nat) (Q : Option AV → AH → Prop)  (y1 : Int) (y2 : Int) (y3 : Int) (y4 : Int) (h : AH) : Prop := J GM (d + 3) b mX8_search Q 51 [some (vR (some 0)), some (vI y1), some (vI y2), some (vI y3), some (vI y4)] [] h
set_option maxRecDepth 20000 in
set_option maxHeartbeats 2000000 in
theorem l_X8_search_51 {d b : Nat} {Q : Option AV → AH → Prop} {h : AH}  {y1 : Int} {y2 : Int} {y3 : Int} {y4 : Int}  (K : (25 ≤ y4 → WM GM (d + 2) 0 mX8_findSearch [vR (some 0), vI y3] h (fun r h1 => ∃ u1, r = some (vI u1) ∧ (y2 = (-1) → Q (some (vI u1)) h1) ∧ (¬(y2 = (-1)) → (0 ≤ y2 ∧ y2 < 7) ∧ Q (some (vI (gi h1 25 y2))) h1))) ∧ (¬(25 ≤ y4) → (zand (zshr y1 y4) 1 = 1 → (0 ≤ y3 ∧ y3 < 25) ∧ ∀ h2, h2 = si h 23 y3 y4 → R32 (y3 + 1) ∧ R32 (y4 + 1) ∧ Lp_X8_search_51 d b Q y1 y2 (y3 + 1) (y4 + 1) h2) ∧ (¬(zand (zshr y1 y4) 1 = 1) → R32 (y4 + 1) ∧ Lp_X8_search_51 d b Q y1 y2 y3 (y4 + 1) h))) : Lp_X8_search_51 d b Q y1 y2 y3 y4 h := by
  unfold Lp_X8_search_51
  refine J_iload rfl dX8_search_51 ?_
  refine J_bipush (by decide) (by decide) dX8_search_53 ?_
  refine J_icmp_ge (tgt := 84) dX8_search_55 (by decide) (fun c => ?_) (fun c => ?_)
  · replace K := K.1 c
    refine J_aload_n rfl dX8_search_84 ?_
    refine J_iload_n rfl dX8_search_85 ?_
    refine J_b0 (J_callV (b1 := 0) (ci := 8) (vs := [vI y3]) (rest := []) (Or.inl rfl) ml_RX8_504 rfl (by decide) rfl rfl (Or.inl rfl) (Nat.le_of_ble_eq_true rfl) rfl dX8_search_86 (WM_mono K (fun r h1 K => ?_)))
    obtain ⟨u1, rfl, K⟩ := K
    show J _ _ _ _ _ _ _ [vI u1] _
    refine J_istore (loc' := [some (vR (some 0)), some (vI y1), some (vI y2), some (vI y3), some (vI u1)]) (by decide) rfl dX8_search_89 ?_
    refine J_iload_n rfl dX8_search_91 ?_
    refine J_iconst (by decide) dX8_search_92 ?_
    refine J_icmp_ne (tgt := 101) dX8_search_93 (by decide) (fun c => ?_) (fun c => ?_)
    · replace K := K.2 c
      refine J_aload_n rfl dX8_search_101 ?_
      refine J_getS (r := 25) fl_RX8_126 rfl (Or.inl rfl) rfl dX8_search_102 ?_
      refine J_iload_n rfl dX8_search_105 ?_
      refine J_iaload (Or.inl rfl) K.1 dX8_search_106 ?_
      replace K := K.2
      exact J_ireturn rfl dX8_search_107 K
    · replace K := K.1 c
      refine J_iload rfl dX8_search_96 ?_
      refine J_goto (tgt := 107) dX8_search_98 (by decide) ?_
      exact J_ireturn rfl dX8_search_107 K
  · replace K := K.2 c
    refine J_iload_n rfl dX8_search_58 ?_
    refine J_iload rfl dX8_search_59 ?_
    refine J_b0 (J_callS (b1 := 0) (vs := [vI y1, vI y4]) (rest := []) (Or.inl rfl) ml_RX8_471 rfl (by decide) (Nat.le_of_ble_eq_true rfl) rfl dX8_search_61 (c_X8_is   ?_))
    show J _ _ _ _ _ _ _ [vI (b2i (zand (zshr y1 y4) 1 = 1))] _
    refine J_if_eq (tgt := 78) dX8_search_64 (by decide) (fun c => ?_) (fun c => ?_)
    · replace K := K.2 (b2i_0.mp c)
      refine J_iinc (loc' := [some (vR (some 0)), some (vI y1), some (vI y2), some (vI y3), some (vI (y4 + 1))]) (by decide) rfl K.1 rfl dX8_search_78 ?_
      replace K := K.2
      refine J_goto (tgt := 51) dX8_search_81 (by decide) ?_
      exact J_forget (loc' := [some (vR (some 0)), some (vI y1), some (vI y2), some (vI y3), some (vI (y4 + 1))]) (And.intro (Or.inr rfl) (And.intro (Or.inr rfl) (And.intro (Or.inr rfl) (And.intro (Or.inr rfl) (And.intro (Or.inr rfl) True.intro))))) K
    · replace K := K.1 (b2i_n0.mp c)
      refine J_aload_n rfl dX8_search_67 ?_
      refine J_getS (r := 23) fl_RX8_120 rfl (Or.inl rfl) rfl dX8_search_68 ?_
      refine J_iload_n rfl dX8_search_71 ?_
      refine J_iload rfl dX8_search_72 ?_
      refine J_iastore (Or.inl rfl) K.1 dX8_search_74 ?_
      replace K := K.2
      replace K := K _ rfl
      refine J_iinc (loc' := [some (vR (some 0)), some (vI y1), some (vI y2), some (vI (y3 + 1)), some (vI y4)]) (by decide) rfl K.1 rfl dX8_search_75 ?_
      replace K := K.2
      refine J_iinc (loc' := [some (vR (some 0)), some (vI y1), some (vI y2), some (vI (y3 + 1)), some (vI (y4 + 1))]) (by decide) rfl K.1 rfl dX8_search_78 ?_
      replace K := K.2
      refine J_goto (tgt := 51) dX8_search_81 (by decide) ?_
      exact J_forget (loc' := [some (vR (some 0)), some (vI y1), some (vI y2), some (vI (y3 + 1)), some (vI (y4 + 1))]) (And.intro (Or.inr rfl) (And.intro (Or.inr rfl) (And.intro (Or.inr rfl) (And.intro (Or.inr rfl) (And.intro (Or.inr rfl) True.intro))))) K
set_option maxRecDepth 20000 in
set_option maxHeartbeats 2000000 in
theorem w_X8_search {d b : Nat} {Q : Option AV → AH → Prop} {h : AH} {x1 : Int} {x2 : Int}  (K : R32 x1 → R32 x2 → ∀ h1, h1 = si h 0 0 0 → (0 ≤ x1 ∧ x1 ≤ 33554431 → ((0 : Int) ≤ x1 ∧ (x1 : Int) < 33554432) ∧ (7 < pcI x1 → Q (some (vI (-1))) h1) ∧ (¬(7 < pcI x1) → ((0 : Int) ≤ x1 ∧ (x1 : Int) < 33554432) ∧ R64 ((pcI x1) - 1) ∧ ((-1) ≤ x2 ∧ x2 ≤ ((pcI x1) - 1) → Lp_X8_search_51 d b Q x1 x2 0 0 h1) ∧ (¬((-1) ≤ x2 ∧ x2 ≤ ((pcI x1) - 1)) → Q (some (vI (-1))) h1))) ∧ (¬(0 ≤ x1 ∧ x1 ≤ 33554431) → Q (some (vI (-1))) h1)) : WM GM (d + 3) b mX8_search [vR (some 0), vI x1, vI x2] h Q := by
  refine WM_introE (loc' := [some (vR (some 0)), some (vI x1), some (vI x2), none, none]) rfl (by decide) (Nat.le_of_ble_eq_true rfl) ?_
  refine J_rgl (i := 1) rfl (fun r1 => ?_)
  replace K := K r1
  refine J_rgl (i := 2) rfl (fun r2 => ?_)
  replace K := K r2
  refine J_aload_n rfl dX8_search_0 ?_
  refine J_iconst (by decide) dX8_search_1 ?_
  refine J_putI fl_RX8_161 rfl (Or.inl rfl) dX8_search_2 ?_
  replace K := K _ rfl
  refine J_iload_n rfl dX8_search_5 ?_
  refine J_i2l dX8_search_6 ?_
  refine J_lconst (x := 0) (by decide) (by decide) dX8_search_7 ?_
  refine J_ldc2 (n := 33554431) (by decide) (by decide) kc_RX8_502 dX8_search_8 ?_
  refine J_b0 (J_callS (b1 := 0) (vs := [vL x1, vL 0, vL 33554431]) (rest := []) (Or.inl rfl) ml_RX8_181 rfl (by decide) (Nat.le_of_ble_eq_true rfl) rfl dX8_search_11 (c_X8_in   ?_))
  show J _ _ _ _ _ _ _ [vI (b2i (0 ≤ x1 ∧ x1 ≤ 33554431))] _
  refine J_if_eq (tgt := 44) dX8_search_14 (by decide) (fun c => ?_) (fun c => ?_)
  · replace K := K.2 (b2i_0.mp c)
    refine J_iconst (by decide) dX8_search_44 ?_
    exact J_ireturn rfl dX8_search_45 K
  · replace K := K.1 (b2i_n0.mp c)
    refine J_iload_n rfl dX8_search_17 ?_
    refine J_b0 (J_callS (b1 := 0) (vs := [vI x1]) (rest := []) (Or.inl rfl) ml_RX8_474 rfl (by decide) (Nat.le_of_ble_eq_true rfl) rfl dX8_search_18 (c_X8_ones  K.1 ?_))
    replace K := K.2
    show J _ _ _ _ _ _ _ [vI (pcI x1)] _
    refine J_bipush (by decide) (by decide) dX8_search_21 ?_
    refine J_icmp_gt (tgt := 44) dX8_search_23 (by decide) (fun c => ?_) (fun c => ?_)
    · replace K := K.1 c
      refine J_iconst (by decide) dX8_search_44 ?_
      exact J_ireturn rfl dX8_search_45 K
    · replace K := K.2 c
      refine J_iload_n rfl dX8_search_26 ?_
      refine J_i2l dX8_search_27 ?_
      refine J_ldc2 (n := (-1)) (by decide) (by decide) kc_RX8_277 dX8_search_28 ?_
      refine J_iload_n rfl dX8_search_31 ?_
      refine J_b0 (J_callS (b1 := 0) (vs := [vI x1]) (rest := [vL (-1), vL x2]) (Or.inl rfl) ml_RX8_474 rfl (by decide) (Nat.le_of_ble_eq_true rfl) rfl dX8_search_32 (c_X8_ones  K.1 ?_))
      replace K := K.2
      show J _ _ _ _ _ _ _ [vI (pcI x1), vL (-1), vL x2] _
      refine J_i2l dX8_search_35 ?_
      refine J_lconst (x := 1) (by decide) (by decide) dX8_search_36 ?_
      refine J_lsub K.1 dX8_search_37 ?_
      replace K := K.2
      refine J_b0 (J_callS (b1 := 0) (vs := [vL x2, vL (-1), vL ((pcI x1) - 1)]) (rest := []) (Or.inl rfl) ml_RX8_181 rfl (by decide) (Nat.le_of_ble_eq_true rfl) rfl dX8_search_38 (c_X8_in   ?_))
      show J _ _ _ _ _ _ _ [vI (b2i ((-1) ≤ x2 ∧ x2 ≤ ((pcI x1) - 1)))] _
      refine J_if_ne (tgt := 46) dX8_search_41 (by decide) (fun c => ?_) (fun c => ?_)
      · replace K := K.1 (b2i_n0.mp c)
        refine J_iconst (by decide) dX8_search_46 ?_
        refine J_istore_n (loc' := [some (vR (some 0)), some (vI x1), some (vI x2), some (vI 0), none]) (by decide) rfl dX8_search_47 ?_
        refine J_iconst (by decide) dX8_search_48 ?_
        refine J_istore (loc' := [some (vR (some 0)), some (vI x1), some (vI x2), some (vI 0), some (vI 0)]) (by decide) rfl dX8_search_49 ?_
        exact J_forget (loc' := [some (vR (some 0)), some (vI x1), some (vI x2), some (vI 0), some (vI 0)]) (And.intro (Or.inr rfl) (And.intro (Or.inr rfl) (And.intro (Or.inr rfl) (And.intro (Or.inr rfl) (And.intro (Or.inr rfl) True.intro))))) K
      · replace K := K.2 (b2i_0.mp c)
        refine J_iconst (by decide) dX8_search_44 ?_
        exact J_ireturn rfl dX8_search_45 K
