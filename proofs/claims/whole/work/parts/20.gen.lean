def Lp_X8_reckonAll_10 (d b : Nat) (Q : Option AV → AH → Prop)  (y2 : Int) (y3 : Int) (y4 : Int) (h : AH) : Prop := J GM (d + 2) b mX8_reckonAll Q 10 [some (vR (some 0)), none, some (vI y2), some (vI y3), some (vI y4), none, none] [] h
def Lp_X8_reckonAll_100 (d b : Nat) (Q : Option AV → AH → Prop)  (y2 : Int) (y3 : Int) (y4 : Int) (y5 : Int) (y6 : Int) (h : AH) : Prop := J GM (d + 2) b mX8_reckonAll Q 100 [some (vR (some 0)), none, some (vI y2), some (vI y3), some (vI y4), some (vI y5), some (vI y6)] [] h
set_option maxRecDepth 20000 in
set_option maxHeartbeats 2000000 in
theorem l_X8_reckonAll_10 {d b : Nat} {Q : Option AV → AH → Prop} {h : AH}  {y2 : Int} {y3 : Int} {y4 : Int}  (K : (y2 ≤ y4 → (y3 ≤ 0 → ∀ h1, h1 = sl h 0 39 0 → Q none h1) ∧ (¬(y3 ≤ 0) → ∀ h2, h2 = sl h 0 39 (gl h 20 0) → Q none h2)) ∧ (¬(y2 ≤ y4) → (gi h 0 38 = 0 → (gi h 0 20 = 0 → R32 ((gi h 0 34) + 98) ∧ R32 (2 * y4) ∧ R32 (((gi h 0 34) + 98) + (2 * y4)) ∧ (0 ≤ ((gi h 0 34) + 98) + (2 * y4) ∧ ((gi h 0 34) + 98) + (2 * y4) < 5540) ∧ (gi h 0 20 = 0 → R32 ((gi h 0 34) + 98) ∧ R32 (2 * y4) ∧ R32 (((gi h 0 34) + 98) + (2 * y4)) ∧ R32 ((((gi h 0 34) + 98) + (2 * y4)) + 1) ∧ (0 ≤ (((gi h 0 34) + 98) + (2 * y4)) + 1 ∧ (((gi h 0 34) + 98) + (2 * y4)) + 1 < 5540) ∧ R32 (y4 + 1) ∧ Lp_X8_reckonAll_100 d b Q y2 y3 (y4 + 1) (gi h 2 (((gi h 0 34) + 98) + (2 * y4))) (gi h 2 ((((gi h 0 34) + 98) + (2 * y4)) + 1)) h) ∧ (¬(gi h 0 20 = 0) → (0 ≤ y4 ∧ y4 < 400) ∧ R32 (y4 + 1) ∧ Lp_X8_reckonAll_100 d b Q y2 y3 (y4 + 1) (gi h 2 (((gi h 0 34) + 98) + (2 * y4))) (gi h 12 y4) h)) ∧ (¬(gi h 0 20 = 0) → (0 ≤ y4 ∧ y4 < 400) ∧ (gi h 0 20 = 0 → R32 ((gi h 0 34) + 98) ∧ R32 (2 * y4) ∧ R32 (((gi h 0 34) + 98) + (2 * y4)) ∧ R32 ((((gi h 0 34) + 98) + (2 * y4)) + 1) ∧ (0 ≤ (((gi h 0 34) + 98) + (2 * y4)) + 1 ∧ (((gi h 0 34) + 98) + (2 * y4)) + 1 < 5540) ∧ R32 (y4 + 1) ∧ Lp_X8_reckonAll_100 d b Q y2 y3 (y4 + 1) (gi h 11 y4) (gi h 2 ((((gi h 0 34) + 98) + (2 * y4)) + 1)) h) ∧ (¬(gi h 0 20 = 0) → (0 ≤ y4 ∧ y4 < 400) ∧ R32 (y4 + 1) ∧ Lp_X8_reckonAll_100 d b Q y2 y3 (y4 + 1) (gi h 11 y4) (gi h 12 y4) h))) ∧ (¬(gi h 0 38 = 0) → (y3 ≤ 0 → ∀ h3, h3 = sl h 0 39 0 → Q none h3) ∧ (¬(y3 ≤ 0) → ∀ h4, h4 = sl h 0 39 (gl h 20 0) → Q none h4)))) : Lp_X8_reckonAll_10 d b Q y2 y3 y4 h := by
  unfold Lp_X8_reckonAll_10
  refine J_iload rfl dX8_reckonAll_10 ?_
  refine J_iload_n rfl dX8_reckonAll_12 ?_
  refine J_icmp_ge (tgt := 396) dX8_reckonAll_13 (by decide) (fun c => ?_) (fun c => ?_)
  · replace K := K.1 c
    refine J_aload_n rfl dX8_reckonAll_396 ?_
    refine J_iload_n rfl dX8_reckonAll_397 ?_
    refine J_if_le (tgt := 410) dX8_reckonAll_398 (by decide) (fun c => ?_) (fun c => ?_)
    · replace K := K.1 c
      refine J_lconst (x := 0) (by decide) (by decide) dX8_reckonAll_410 ?_
      refine J_putL fl_RX8_412 rfl (Or.inl rfl) dX8_reckonAll_411 ?_
      replace K := K _ rfl
      exact J_return rfl dX8_reckonAll_414 K
    · replace K := K.2 c
      refine J_aload_n rfl dX8_reckonAll_401 ?_
      refine J_getS (r := 20) fl_RX8_111 rfl (Or.inl rfl) rfl dX8_reckonAll_402 ?_
      refine J_iconst (by decide) dX8_reckonAll_405 ?_
      refine J_laload (Or.inl rfl) (by decide) dX8_reckonAll_406 ?_
      refine J_goto (tgt := 411) dX8_reckonAll_407 (by decide) ?_
      refine J_putL fl_RX8_412 rfl (Or.inl rfl) dX8_reckonAll_411 ?_
      replace K := K _ rfl
      exact J_return rfl dX8_reckonAll_414 K
  · replace K := K.2 c
    refine J_aload_n rfl dX8_reckonAll_16 ?_
    refine J_getI fl_RX8_398 rfl (Or.inl rfl) dX8_reckonAll_17 ?_
    refine J_if_ne (tgt := 396) dX8_reckonAll_20 (by decide) (fun c => ?_) (fun c => ?_)
    · replace K := K.2 c
      refine J_aload_n rfl dX8_reckonAll_396 ?_
      refine J_iload_n rfl dX8_reckonAll_397 ?_
      refine J_if_le (tgt := 410) dX8_reckonAll_398 (by decide) (fun c => ?_) (fun c => ?_)
      · replace K := K.1 c
        refine J_lconst (x := 0) (by decide) (by decide) dX8_reckonAll_410 ?_
        refine J_putL fl_RX8_412 rfl (Or.inl rfl) dX8_reckonAll_411 ?_
        replace K := K _ rfl
        exact J_return rfl dX8_reckonAll_414 K
      · replace K := K.2 c
        refine J_aload_n rfl dX8_reckonAll_401 ?_
        refine J_getS (r := 20) fl_RX8_111 rfl (Or.inl rfl) rfl dX8_reckonAll_402 ?_
        refine J_iconst (by decide) dX8_reckonAll_405 ?_
        refine J_laload (Or.inl rfl) (by decide) dX8_reckonAll_406 ?_
        refine J_goto (tgt := 411) dX8_reckonAll_407 (by decide) ?_
        refine J_putL fl_RX8_412 rfl (Or.inl rfl) dX8_reckonAll_411 ?_
        replace K := K _ rfl
        exact J_return rfl dX8_reckonAll_414 K
    · replace K := K.1 c
      refine J_aload_n rfl dX8_reckonAll_23 ?_
      refine J_getI fl_RX8_327 rfl (Or.inl rfl) dX8_reckonAll_24 ?_
      refine J_if_eq (tgt := 40) dX8_reckonAll_27 (by decide) (fun c => ?_) (fun c => ?_)
      · replace K := K.1 c
        refine J_aload_n rfl dX8_reckonAll_40 ?_
        refine J_getS (r := 2) fl_RX8_13 rfl (Or.inl rfl) rfl dX8_reckonAll_41 ?_
        refine J_aload_n rfl dX8_reckonAll_44 ?_
        refine J_getI fl_RX8_401 rfl (Or.inl rfl) dX8_reckonAll_45 ?_
        refine J_bipush (by decide) (by decide) dX8_reckonAll_48 ?_
        refine J_iadd K.1 dX8_reckonAll_50 ?_
        replace K := K.2
        refine J_iconst (by decide) dX8_reckonAll_51 ?_
        refine J_iload rfl dX8_reckonAll_52 ?_
        refine J_imul K.1 dX8_reckonAll_54 ?_
        replace K := K.2
        refine J_iadd K.1 dX8_reckonAll_55 ?_
        replace K := K.2
        refine J_iaload (Or.inl rfl) K.1 dX8_reckonAll_56 ?_
        replace K := K.2
        refine J_istore (loc' := [some (vR (some 0)), none, some (vI y2), some (vI y3), some (vI y4), some (vI (gi h 2 (((gi h 0 34) + 98) + (2 * y4)))), none]) (by decide) rfl dX8_reckonAll_57 ?_
        refine J_aload_n rfl dX8_reckonAll_59 ?_
        refine J_getI fl_RX8_327 rfl (Or.inl rfl) dX8_reckonAll_60 ?_
        refine J_if_eq (tgt := 76) dX8_reckonAll_63 (by decide) (fun c => ?_) (fun c => ?_)
        · replace K := K.1 c
          refine J_aload_n rfl dX8_reckonAll_76 ?_
          refine J_getS (r := 2) fl_RX8_13 rfl (Or.inl rfl) rfl dX8_reckonAll_77 ?_
          refine J_aload_n rfl dX8_reckonAll_80 ?_
          refine J_getI fl_RX8_401 rfl (Or.inl rfl) dX8_reckonAll_81 ?_
          refine J_bipush (by decide) (by decide) dX8_reckonAll_84 ?_
          refine J_iadd K.1 dX8_reckonAll_86 ?_
          replace K := K.2
          refine J_iconst (by decide) dX8_reckonAll_87 ?_
          refine J_iload rfl dX8_reckonAll_88 ?_
          refine J_imul K.1 dX8_reckonAll_90 ?_
          replace K := K.2
          refine J_iadd K.1 dX8_reckonAll_91 ?_
          replace K := K.2
          refine J_iconst (by decide) dX8_reckonAll_92 ?_
          refine J_iadd K.1 dX8_reckonAll_93 ?_
          replace K := K.2
          refine J_iaload (Or.inl rfl) K.1 dX8_reckonAll_94 ?_
          replace K := K.2
          refine J_istore (loc' := [some (vR (some 0)), none, some (vI y2), some (vI y3), some (vI y4), some (vI (gi h 2 (((gi h 0 34) + 98) + (2 * y4)))), some (vI (gi h 2 ((((gi h 0 34) + 98) + (2 * y4)) + 1)))]) (by decide) rfl dX8_reckonAll_95 ?_
          refine J_iinc (loc' := [some (vR (some 0)), none, some (vI y2), some (vI y3), some (vI (y4 + 1)), some (vI (gi h 2 (((gi h 0 34) + 98) + (2 * y4)))), some (vI (gi h 2 ((((gi h 0 34) + 98) + (2 * y4)) + 1)))]) (by decide) rfl K.1 rfl dX8_reckonAll_97 ?_
          replace K := K.2
          exact J_forget (loc' := [some (vR (some 0)), none, some (vI y2), some (vI y3), some (vI (y4 + 1)), some (vI (gi h 2 (((gi h 0 34) + 98) + (2 * y4)))), some (vI (gi h 2 ((((gi h 0 34) + 98) + (2 * y4)) + 1)))]) (And.intro (Or.inr rfl) (And.intro (Or.inl rfl) (And.intro (Or.inr rfl) (And.intro (Or.inr rfl) (And.intro (Or.inr rfl) (And.intro (Or.inr rfl) (And.intro (Or.inr rfl) True.intro))))))) K
        · replace K := K.2 c
          refine J_aload_n rfl dX8_reckonAll_66 ?_
          refine J_getS (r := 12) fl_RX8_48 rfl (Or.inl rfl) rfl dX8_reckonAll_67 ?_
          refine J_iload rfl dX8_reckonAll_70 ?_
          refine J_iaload (Or.inl rfl) K.1 dX8_reckonAll_72 ?_
          replace K := K.2
          refine J_goto (tgt := 95) dX8_reckonAll_73 (by decide) ?_
          refine J_istore (loc' := [some (vR (some 0)), none, some (vI y2), some (vI y3), some (vI y4), some (vI (gi h 2 (((gi h 0 34) + 98) + (2 * y4)))), some (vI (gi h 12 y4))]) (by decide) rfl dX8_reckonAll_95 ?_
          refine J_iinc (loc' := [some (vR (some 0)), none, some (vI y2), some (vI y3), some (vI (y4 + 1)), some (vI (gi h 2 (((gi h 0 34) + 98) + (2 * y4)))), some (vI (gi h 12 y4))]) (by decide) rfl K.1 rfl dX8_reckonAll_97 ?_
          replace K := K.2
          exact J_forget (loc' := [some (vR (some 0)), none, some (vI y2), some (vI y3), some (vI (y4 + 1)), some (vI (gi h 2 (((gi h 0 34) + 98) + (2 * y4)))), some (vI (gi h 12 y4))]) (And.intro (Or.inr rfl) (And.intro (Or.inl rfl) (And.intro (Or.inr rfl) (And.intro (Or.inr rfl) (And.intro (Or.inr rfl) (And.intro (Or.inr rfl) (And.intro (Or.inr rfl) True.intro))))))) K
      · replace K := K.2 c
        refine J_aload_n rfl dX8_reckonAll_30 ?_
        refine J_getS (r := 11) fl_RX8_45 rfl (Or.inl rfl) rfl dX8_reckonAll_31 ?_
        refine J_iload rfl dX8_reckonAll_34 ?_
        refine J_iaload (Or.inl rfl) K.1 dX8_reckonAll_36 ?_
        replace K := K.2
        refine J_goto (tgt := 57) dX8_reckonAll_37 (by decide) ?_
        refine J_istore (loc' := [some (vR (some 0)), none, some (vI y2), some (vI y3), some (vI y4), some (vI (gi h 11 y4)), none]) (by decide) rfl dX8_reckonAll_57 ?_
        refine J_aload_n rfl dX8_reckonAll_59 ?_
        refine J_getI fl_RX8_327 rfl (Or.inl rfl) dX8_reckonAll_60 ?_
        refine J_if_eq (tgt := 76) dX8_reckonAll_63 (by decide) (fun c => ?_) (fun c => ?_)
        · replace K := K.1 c
          refine J_aload_n rfl dX8_reckonAll_76 ?_
          refine J_getS (r := 2) fl_RX8_13 rfl (Or.inl rfl) rfl dX8_reckonAll_77 ?_
          refine J_aload_n rfl dX8_reckonAll_80 ?_
          refine J_getI fl_RX8_401 rfl (Or.inl rfl) dX8_reckonAll_81 ?_
          refine J_bipush (by decide) (by decide) dX8_reckonAll_84 ?_
          refine J_iadd K.1 dX8_reckonAll_86 ?_
          replace K := K.2
          refine J_iconst (by decide) dX8_reckonAll_87 ?_
          refine J_iload rfl dX8_reckonAll_88 ?_
          refine J_imul K.1 dX8_reckonAll_90 ?_
          replace K := K.2
          refine J_iadd K.1 dX8_reckonAll_91 ?_
          replace K := K.2
          refine J_iconst (by decide) dX8_reckonAll_92 ?_
          refine J_iadd K.1 dX8_reckonAll_93 ?_
          replace K := K.2
          refine J_iaload (Or.inl rfl) K.1 dX8_reckonAll_94 ?_
          replace K := K.2
          refine J_istore (loc' := [some (vR (some 0)), none, some (vI y2), some (vI y3), some (vI y4), some (vI (gi h 11 y4)), some (vI (gi h 2 ((((gi h 0 34) + 98) + (2 * y4)) + 1)))]) (by decide) rfl dX8_reckonAll_95 ?_
          refine J_iinc (loc' := [some (vR (some 0)), none, some (vI y2), some (vI y3), some (vI (y4 + 1)), some (vI (gi h 11 y4)), some (vI (gi h 2 ((((gi h 0 34) + 98) + (2 * y4)) + 1)))]) (by decide) rfl K.1 rfl dX8_reckonAll_97 ?_
          replace K := K.2
          exact J_forget (loc' := [some (vR (some 0)), none, some (vI y2), some (vI y3), some (vI (y4 + 1)), some (vI (gi h 11 y4)), some (vI (gi h 2 ((((gi h 0 34) + 98) + (2 * y4)) + 1)))]) (And.intro (Or.inr rfl) (And.intro (Or.inl rfl) (And.intro (Or.inr rfl) (And.intro (Or.inr rfl) (And.intro (Or.inr rfl) (And.intro (Or.inr rfl) (And.intro (Or.inr rfl) True.intro))))))) K
        · replace K := K.2 c
          refine J_aload_n rfl dX8_reckonAll_66 ?_
          refine J_getS (r := 12) fl_RX8_48 rfl (Or.inl rfl) rfl dX8_reckonAll_67 ?_
          refine J_iload rfl dX8_reckonAll_70 ?_
          refine J_iaload (Or.inl rfl) K.1 dX8_reckonAll_72 ?_
          replace K := K.2
          refine J_goto (tgt := 95) dX8_reckonAll_73 (by decide) ?_
          refine J_istore (loc' := [some (vR (some 0)), none, some (vI y2), some (vI y3), some (vI y4), some (vI (gi h 11 y4)), some (vI (gi h 12 y4))]) (by decide) rfl dX8_reckonAll_95 ?_
          refine J_iinc (loc' := [some (vR (some 0)), none, some (vI y2), some (vI y3), some (vI (y4 + 1)), some (vI (gi h 11 y4)), some (vI (gi h 12 y4))]) (by decide) rfl K.1 rfl dX8_reckonAll_97 ?_
          replace K := K.2
          exact J_forget (loc' := [some (vR (some 0)), none, some (vI y2), some (vI y3), some (vI (y4 + 1)), some (vI (gi h 11 y4)), some (vI (gi h 12 y4))]) (And.intro (Or.inr rfl) (And.intro (Or.inl rfl) (And.intro (Or.inr rfl) (And.intro (Or.inr rfl) (And.intro (Or.inr rfl) (And.intro (Or.inr rfl) (And.intro (Or.inr rfl) True.intro))))))) K
set_option maxRecDepth 20000 in
set_option maxHeartbeats 2000000 in
theorem l_X8_reckonAll_100 {d b : Nat} {Q : Option AV → AH → Prop} {h : AH}  {y2 : Int} {y3 : Int} {y4 : Int} {y5 : Int} {y6 : Int}  (K : (20 ≤ y5 → (28 ≤ y5 → (y5 = 28 → R32 (y3 - 1) ∧ R32 (y3 - 1) ∧ (0 ≤ y3 - 1 ∧ y3 - 1 < 400) ∧ R64 (1 - (gl h 20 (y3 - 1))) ∧ (0 ≤ y3 - 1 ∧ y3 - 1 < 400) ∧ ∀ h1, h1 = sl h 20 (y3 - 1) (1 - (gl h 20 (y3 - 1))) → Lp_X8_reckonAll_10 d b Q y2 y3 y4 h1) ∧ (¬(y5 = 28) → R32 (y3 - 1) ∧ (0 ≤ y3 - 1 ∧ y3 - 1 < 400) ∧ (y5 = 29 → (gl h 20 (y3 - 1) = 0 → Lp_X8_reckonAll_10 d b Q y2 y3 y6 h) ∧ (¬(gl h 20 (y3 - 1) = 0) → R32 (y3 + (-1)) ∧ Lp_X8_reckonAll_10 d b Q y2 (y3 + (-1)) y4 h)) ∧ (¬(y5 = 29) → (gl h 20 (y3 - 1) = 1 → Lp_X8_reckonAll_10 d b Q y2 y3 y6 h) ∧ (¬(gl h 20 (y3 - 1) = 1) → R32 (y3 + (-1)) ∧ Lp_X8_reckonAll_10 d b Q y2 (y3 + (-1)) y4 h)))) ∧ (¬(28 ≤ y5) → R32 (y3 + (-1)) ∧ R32 ((y3 + (-1)) - 1) ∧ R32 ((y3 + (-1)) - 1) ∧ (0 ≤ (y3 + (-1)) - 1 ∧ (y3 + (-1)) - 1 < 400) ∧ (0 ≤ y3 + (-1) ∧ y3 + (-1) < 400) ∧ WM GM (d + 1) 0 mX8_reckon [vR (some 0), vI y5, vL (gl h 20 ((y3 + (-1)) - 1)), vL (gl h 20 (y3 + (-1)))] h (fun r h2 => ∃ x1, r = some (vL x1) ∧ (0 ≤ (y3 + (-1)) - 1 ∧ (y3 + (-1)) - 1 < 400) ∧ ∀ h3, h3 = sl h2 20 ((y3 + (-1)) - 1) x1 → (gi h2 0 38 = 0 → R32 ((y3 + (-1)) - 1) ∧ (0 ≤ (y3 + (-1)) - 1 ∧ (y3 + (-1)) - 1 < 400) ∧ ((-1000000000) ≤ x1 ∧ x1 ≤ 1000000000 → ∀ h5, h5 = si h3 0 38 0 → Lp_X8_reckonAll_10 d b Q y2 (y3 + (-1)) y4 h5) ∧ (¬((-1000000000) ≤ x1 ∧ x1 ≤ 1000000000) → ∀ h6, h6 = si h3 0 38 1 → Lp_X8_reckonAll_10 d b Q y2 (y3 + (-1)) y4 h6)) ∧ (¬(gi h2 0 38 = 0) → ∀ h4, h4 = si h3 0 38 1 → Lp_X8_reckonAll_10 d b Q y2 (y3 + (-1)) y4 h4)))) ∧ (¬(20 ≤ y5) → (y5 = 0 → (0 ≤ y3 ∧ y3 < 400) ∧ ∀ h15, h15 = sl h 20 y3 y6 → R32 (y3 + 1) ∧ Lp_X8_reckonAll_10 d b Q y2 (y3 + 1) y4 h15) ∧ (¬(y5 = 0) → (gi h 0 20 = 0 → (0 ≤ y5 ∧ y5 < 13) ∧ (0 ≤ y3 ∧ y3 < 400) ∧ ∀ h14, h14 = sl h 20 y3 (gl h 18 y5) → R32 (y3 + 1) ∧ Lp_X8_reckonAll_10 d b Q y2 (y3 + 1) y4 h14) ∧ (¬(gi h 0 20 = 0) → (5 ≤ y5 → (y5 = 5 → (0 ≤ gi h 2 1 ∧ gi h 2 1 ≤ 8) ∧ ((0 : Int) ≤ y6 ∧ y6 < gi h 2 1 → R32 (15 + y6) ∧ (0 ≤ 15 + y6 ∧ 15 + y6 < 5540) ∧ (0 ≤ y3 ∧ y3 < 400) ∧ ∀ h12, h12 = sl h 20 y3 (gi h 2 (15 + y6)) → R32 (y3 + 1) ∧ Lp_X8_reckonAll_10 d b Q y2 (y3 + 1) y4 h12) ∧ (¬((0 : Int) ≤ y6 ∧ y6 < gi h 2 1) → (0 ≤ y3 ∧ y3 < 400) ∧ ∀ h11, h11 = sl h 20 y3 (-1) → R32 (y3 + 1) ∧ Lp_X8_reckonAll_10 d b Q y2 (y3 + 1) y4 h11)) ∧ (¬(y5 = 5) → (y5 = 6 → (0 ≤ gi h 2 1 ∧ gi h 2 1 ≤ 8) ∧ ((0 : Int) ≤ y6 ∧ y6 < gi h 2 1 → R32 (7 + y6) ∧ (0 ≤ 7 + y6 ∧ 7 + y6 < 5540) ∧ (0 ≤ y3 ∧ y3 < 400) ∧ ∀ h10, h10 = sl h 20 y3 (gi h 2 (7 + y6)) → R32 (y3 + 1) ∧ Lp_X8_reckonAll_10 d b Q y2 (y3 + 1) y4 h10) ∧ (¬((0 : Int) ≤ y6 ∧ y6 < gi h 2 1) → (0 ≤ y3 ∧ y3 < 400) ∧ ∀ h9, h9 = sl h 20 y3 (-1) → R32 (y3 + 1) ∧ Lp_X8_reckonAll_10 d b Q y2 (y3 + 1) y4 h9)) ∧ (¬(y5 = 6) → (0 ≤ gi h 2 1 ∧ gi h 2 1 ≤ 8) ∧ ((0 : Int) ≤ y6 ∧ y6 < gi h 2 1 → R32 (23 + y6) ∧ (0 ≤ 23 + y6 ∧ 23 + y6 < 5540) ∧ (0 ≤ y3 ∧ y3 < 400) ∧ ∀ h8, h8 = sl h 20 y3 (gi h 2 (23 + y6)) → R32 (y3 + 1) ∧ Lp_X8_reckonAll_10 d b Q y2 (y3 + 1) y4 h8) ∧ (¬((0 : Int) ≤ y6 ∧ y6 < gi h 2 1) → (0 ≤ y3 ∧ y3 < 400) ∧ ∀ h7, h7 = sl h 20 y3 0 → R32 (y3 + 1) ∧ Lp_X8_reckonAll_10 d b Q y2 (y3 + 1) y4 h7)))) ∧ (¬(5 ≤ y5) → (0 ≤ y5 ∧ y5 < 13) ∧ (0 ≤ y3 ∧ y3 < 400) ∧ ∀ h13, h13 = sl h 20 y3 (gl h 19 y5) → R32 (y3 + 1) ∧ Lp_X8_reckonAll_10 d b Q y2 (y3 + 1) y4 h13))))) : Lp_X8_reckonAll_100 d b Q y2 y3 y4 y5 y6 h := by
  unfold Lp_X8_reckonAll_100
  refine J_iload rfl dX8_reckonAll_100 ?_
  refine J_bipush (by decide) (by decide) dX8_reckonAll_102 ?_
  refine J_icmp_ge (tgt := 254) dX8_reckonAll_104 (by decide) (fun c => ?_) (fun c => ?_)
  · replace K := K.1 c
    refine J_iload rfl dX8_reckonAll_254 ?_
    refine J_bipush (by decide) (by decide) dX8_reckonAll_256 ?_
    refine J_icmp_ge (tgt := 331) dX8_reckonAll_258 (by decide) (fun c => ?_) (fun c => ?_)
    · replace K := K.1 c
      refine J_iload rfl dX8_reckonAll_331 ?_
      refine J_bipush (by decide) (by decide) dX8_reckonAll_333 ?_
      refine J_icmp_ne (tgt := 359) dX8_reckonAll_335 (by decide) (fun c => ?_) (fun c => ?_)
      · replace K := K.2 c
        refine J_aload_n rfl dX8_reckonAll_359 ?_
        refine J_getS (r := 20) fl_RX8_111 rfl (Or.inl rfl) rfl dX8_reckonAll_360 ?_
        refine J_iload_n rfl dX8_reckonAll_363 ?_
        refine J_iconst (by decide) dX8_reckonAll_364 ?_
        refine J_isub K.1 dX8_reckonAll_365 ?_
        replace K := K.2
        refine J_laload (Or.inl rfl) K.1 dX8_reckonAll_366 ?_
        replace K := K.2
        refine J_iload rfl dX8_reckonAll_367 ?_
        refine J_bipush (by decide) (by decide) dX8_reckonAll_369 ?_
        refine J_icmp_ne (tgt := 378) dX8_reckonAll_371 (by decide) (fun c => ?_) (fun c => ?_)
        · replace K := K.2 c
          refine J_lconst (x := 1) (by decide) (by decide) dX8_reckonAll_378 ?_
          refine J_lcmp dX8_reckonAll_379 ?_
          refine J_if_ne (tgt := 390) dX8_reckonAll_380 (by decide) (fun c => ?_) (fun c => ?_)
          · replace K := K.2 (fun z => c (zc_eq.mpr z))
            refine J_iinc (loc' := [some (vR (some 0)), none, some (vI y2), some (vI (y3 + (-1))), some (vI y4), some (vI y5), some (vI y6)]) (by decide) rfl K.1 rfl dX8_reckonAll_390 ?_
            replace K := K.2
            refine J_goto (tgt := 10) dX8_reckonAll_393 (by decide) ?_
            exact J_forget (loc' := [some (vR (some 0)), none, some (vI y2), some (vI (y3 + (-1))), some (vI y4), none, none]) (And.intro (Or.inr rfl) (And.intro (Or.inl rfl) (And.intro (Or.inr rfl) (And.intro (Or.inr rfl) (And.intro (Or.inr rfl) (And.intro (Or.inl rfl) (And.intro (Or.inl rfl) True.intro))))))) K
          · replace K := K.1 (zc_eq.mp c)
            refine J_iload rfl dX8_reckonAll_383 ?_
            refine J_istore (loc' := [some (vR (some 0)), none, some (vI y2), some (vI y3), some (vI y6), some (vI y5), some (vI y6)]) (by decide) rfl dX8_reckonAll_385 ?_
            refine J_goto (tgt := 393) dX8_reckonAll_387 (by decide) ?_
            refine J_goto (tgt := 10) dX8_reckonAll_393 (by decide) ?_
            exact J_forget (loc' := [some (vR (some 0)), none, some (vI y2), some (vI y3), some (vI y6), none, none]) (And.intro (Or.inr rfl) (And.intro (Or.inl rfl) (And.intro (Or.inr rfl) (And.intro (Or.inr rfl) (And.intro (Or.inr rfl) (And.intro (Or.inl rfl) (And.intro (Or.inl rfl) True.intro))))))) K
        · replace K := K.1 c
          refine J_lconst (x := 0) (by decide) (by decide) dX8_reckonAll_374 ?_
          refine J_goto (tgt := 379) dX8_reckonAll_375 (by decide) ?_
          refine J_lcmp dX8_reckonAll_379 ?_
          refine J_if_ne (tgt := 390) dX8_reckonAll_380 (by decide) (fun c => ?_) (fun c => ?_)
          · replace K := K.2 (fun z => c (zc_eq.mpr z))
            refine J_iinc (loc' := [some (vR (some 0)), none, some (vI y2), some (vI (y3 + (-1))), some (vI y4), some (vI y5), some (vI y6)]) (by decide) rfl K.1 rfl dX8_reckonAll_390 ?_
            replace K := K.2
            refine J_goto (tgt := 10) dX8_reckonAll_393 (by decide) ?_
            exact J_forget (loc' := [some (vR (some 0)), none, some (vI y2), some (vI (y3 + (-1))), some (vI y4), none, none]) (And.intro (Or.inr rfl) (And.intro (Or.inl rfl) (And.intro (Or.inr rfl) (And.intro (Or.inr rfl) (And.intro (Or.inr rfl) (And.intro (Or.inl rfl) (And.intro (Or.inl rfl) True.intro))))))) K
          · replace K := K.1 (zc_eq.mp c)
            refine J_iload rfl dX8_reckonAll_383 ?_
            refine J_istore (loc' := [some (vR (some 0)), none, some (vI y2), some (vI y3), some (vI y6), some (vI y5), some (vI y6)]) (by decide) rfl dX8_reckonAll_385 ?_
            refine J_goto (tgt := 393) dX8_reckonAll_387 (by decide) ?_
            refine J_goto (tgt := 10) dX8_reckonAll_393 (by decide) ?_
            exact J_forget (loc' := [some (vR (some 0)), none, some (vI y2), some (vI y3), some (vI y6), none, none]) (And.intro (Or.inr rfl) (And.intro (Or.inl rfl) (And.intro (Or.inr rfl) (And.intro (Or.inr rfl) (And.intro (Or.inr rfl) (And.intro (Or.inl rfl) (And.intro (Or.inl rfl) True.intro))))))) K
      · replace K := K.1 c
        refine J_aload_n rfl dX8_reckonAll_338 ?_
        refine J_getS (r := 20) fl_RX8_111 rfl (Or.inl rfl) rfl dX8_reckonAll_339 ?_
        refine J_iload_n rfl dX8_reckonAll_342 ?_
        refine J_iconst (by decide) dX8_reckonAll_343 ?_
        refine J_isub K.1 dX8_reckonAll_344 ?_
        replace K := K.2
        refine J_lconst (x := 1) (by decide) (by decide) dX8_reckonAll_345 ?_
        refine J_aload_n rfl dX8_reckonAll_346 ?_
        refine J_getS (r := 20) fl_RX8_111 rfl (Or.inl rfl) rfl dX8_reckonAll_347 ?_
        refine J_iload_n rfl dX8_reckonAll_350 ?_
        refine J_iconst (by decide) dX8_reckonAll_351 ?_
        refine J_isub K.1 dX8_reckonAll_352 ?_
        replace K := K.2
        refine J_laload (Or.inl rfl) K.1 dX8_reckonAll_353 ?_
        replace K := K.2
        refine J_lsub K.1 dX8_reckonAll_354 ?_
        replace K := K.2
        refine J_lastore (Or.inl rfl) K.1 dX8_reckonAll_355 ?_
        replace K := K.2
        replace K := K _ rfl
        refine J_goto (tgt := 393) dX8_reckonAll_356 (by decide) ?_
        refine J_goto (tgt := 10) dX8_reckonAll_393 (by decide) ?_
        exact J_forget (loc' := [some (vR (some 0)), none, some (vI y2), some (vI y3), some (vI y4), none, none]) (And.intro (Or.inr rfl) (And.intro (Or.inl rfl) (And.intro (Or.inr rfl) (And.intro (Or.inr rfl) (And.intro (Or.inr rfl) (And.intro (Or.inl rfl) (And.intro (Or.inl rfl) True.intro))))))) K
    · replace K := K.2 c
      refine J_iinc (loc' := [some (vR (some 0)), none, some (vI y2), some (vI (y3 + (-1))), some (vI y4), some (vI y5), some (vI y6)]) (by decide) rfl K.1 rfl dX8_reckonAll_261 ?_
      replace K := K.2
      refine J_aload_n rfl dX8_reckonAll_264 ?_
      refine J_getS (r := 20) fl_RX8_111 rfl (Or.inl rfl) rfl dX8_reckonAll_265 ?_
      refine J_iload_n rfl dX8_reckonAll_268 ?_
      refine J_iconst (by decide) dX8_reckonAll_269 ?_
      refine J_isub K.1 dX8_reckonAll_270 ?_
      replace K := K.2
      refine J_aload_n rfl dX8_reckonAll_271 ?_
      refine J_iload rfl dX8_reckonAll_272 ?_
      refine J_aload_n rfl dX8_reckonAll_274 ?_
      refine J_getS (r := 20) fl_RX8_111 rfl (Or.inl rfl) rfl dX8_reckonAll_275 ?_
      refine J_iload_n rfl dX8_reckonAll_278 ?_
      refine J_iconst (by decide) dX8_reckonAll_279 ?_
      refine J_isub K.1 dX8_reckonAll_280 ?_
      replace K := K.2
      refine J_laload (Or.inl rfl) K.1 dX8_reckonAll_281 ?_
      replace K := K.2
      refine J_aload_n rfl dX8_reckonAll_282 ?_
      refine J_getS (r := 20) fl_RX8_111 rfl (Or.inl rfl) rfl dX8_reckonAll_283 ?_
      refine J_iload_n rfl dX8_reckonAll_286 ?_
      refine J_laload (Or.inl rfl) K.1 dX8_reckonAll_287 ?_
      replace K := K.2
      refine J_b0 (J_callV (b1 := 0) (ci := 8) (vs := [vI y5, vL (gl h 20 ((y3 + (-1)) - 1)), vL (gl h 20 (y3 + (-1)))]) (rest := [vI ((y3 + (-1)) - 1), vR (some 20)]) (Or.inl rfl) ml_RX8_404 rfl (by decide) rfl rfl (Or.inl rfl) (Nat.le_of_ble_eq_true rfl) rfl dX8_reckonAll_288 (WM_mono K (fun r h2 K => ?_)))
      obtain ⟨x1, rfl, K⟩ := K
      show J _ _ _ _ _ _ _ [vL x1, vI ((y3 + (-1)) - 1), vR (some 20)] _
      refine J_lastore (Or.inl rfl) K.1 dX8_reckonAll_291 ?_
      replace K := K.2
      replace K := K _ rfl
      refine J_aload_n rfl dX8_reckonAll_292 ?_
      refine J_aload_n rfl dX8_reckonAll_293 ?_
      refine J_getIe fl_RX8_398 rfl (Or.inl rfl) gi_xl dX8_reckonAll_294 ?_
      refine J_if_ne (tgt := 320) dX8_reckonAll_297 (by decide) (fun c => ?_) (fun c => ?_)
      · replace K := K.2 c
        refine J_iconst (by decide) dX8_reckonAll_320 ?_
        refine J_goto (tgt := 325) dX8_reckonAll_321 (by decide) ?_
        refine J_putZ fl_RX8_398 rfl (by decide) (Or.inl rfl) dX8_reckonAll_325 ?_
        replace K := K _ rfl
        refine J_goto (tgt := 393) dX8_reckonAll_328 (by decide) ?_
        refine J_goto (tgt := 10) dX8_reckonAll_393 (by decide) ?_
        exact J_forget (loc' := [some (vR (some 0)), none, some (vI y2), some (vI (y3 + (-1))), some (vI y4), none, none]) (And.intro (Or.inr rfl) (And.intro (Or.inl rfl) (And.intro (Or.inr rfl) (And.intro (Or.inr rfl) (And.intro (Or.inr rfl) (And.intro (Or.inl rfl) (And.intro (Or.inl rfl) True.intro))))))) K
      · replace K := K.1 c
        refine J_aload_n rfl dX8_reckonAll_300 ?_
        refine J_getS (r := 20) fl_RX8_111 rfl (Or.inl rfl) rfl dX8_reckonAll_301 ?_
        refine J_iload_n rfl dX8_reckonAll_304 ?_
        refine J_iconst (by decide) dX8_reckonAll_305 ?_
        refine J_isub K.1 dX8_reckonAll_306 ?_
        replace K := K.2
        refine J_laloade (Or.inl rfl) K.1 gl_eq dX8_reckonAll_307 ?_
        replace K := K.2
        refine J_ldc2 (n := (-1000000000)) (by decide) (by decide) kc_RX8_408 dX8_reckonAll_308 ?_
        refine J_ldc2 (n := 1000000000) (by decide) (by decide) kc_RX8_410 dX8_reckonAll_311 ?_
        refine J_b0 (J_callS (b1 := 0) (vs := [vL x1, vL (-1000000000), vL 1000000000]) (rest := [vR (some 0)]) (Or.inl rfl) ml_RX8_181 rfl (by decide) (Nat.le_of_ble_eq_true rfl) rfl dX8_reckonAll_314 (c_X8_in   ?_))
        show J _ _ _ _ _ _ _ [vI (b2i ((-1000000000) ≤ x1 ∧ x1 ≤ 1000000000)), vR (some 0)] _
        refine J_if_ne (tgt := 324) dX8_reckonAll_317 (by decide) (fun c => ?_) (fun c => ?_)
        · replace K := K.1 (b2i_n0.mp c)
          refine J_iconst (by decide) dX8_reckonAll_324 ?_
          refine J_putZ fl_RX8_398 rfl (by decide) (Or.inl rfl) dX8_reckonAll_325 ?_
          replace K := K _ rfl
          refine J_goto (tgt := 393) dX8_reckonAll_328 (by decide) ?_
          refine J_goto (tgt := 10) dX8_reckonAll_393 (by decide) ?_
          exact J_forget (loc' := [some (vR (some 0)), none, some (vI y2), some (vI (y3 + (-1))), some (vI y4), none, none]) (And.intro (Or.inr rfl) (And.intro (Or.inl rfl) (And.intro (Or.inr rfl) (And.intro (Or.inr rfl) (And.intro (Or.inr rfl) (And.intro (Or.inl rfl) (And.intro (Or.inl rfl) True.intro))))))) K
        · replace K := K.2 (b2i_0.mp c)
          refine J_iconst (by decide) dX8_reckonAll_320 ?_
          refine J_goto (tgt := 325) dX8_reckonAll_321 (by decide) ?_
          refine J_putZ fl_RX8_398 rfl (by decide) (Or.inl rfl) dX8_reckonAll_325 ?_
          replace K := K _ rfl
          refine J_goto (tgt := 393) dX8_reckonAll_328 (by decide) ?_
          refine J_goto (tgt := 10) dX8_reckonAll_393 (by decide) ?_
          exact J_forget (loc' := [some (vR (some 0)), none, some (vI y2), some (vI (y3 + (-1))), some (vI y4), none, none]) (And.intro (Or.inr rfl) (And.intro (Or.inl rfl) (And.intro (Or.inr rfl) (And.intro (Or.inr rfl) (And.intro (Or.inr rfl) (And.intro (Or.inl rfl) (And.intro (Or.inl rfl) True.intro))))))) K
  · replace K := K.2 c
    refine J_aload_n rfl dX8_reckonAll_107 ?_
    refine J_getS (r := 20) fl_RX8_111 rfl (Or.inl rfl) rfl dX8_reckonAll_108 ?_
    refine J_iload_n rfl dX8_reckonAll_111 ?_
    refine J_iload rfl dX8_reckonAll_112 ?_
    refine J_if_ne (tgt := 123) dX8_reckonAll_114 (by decide) (fun c => ?_) (fun c => ?_)
    · replace K := K.2 c
      refine J_aload_n rfl dX8_reckonAll_123 ?_
      refine J_getI fl_RX8_327 rfl (Or.inl rfl) dX8_reckonAll_124 ?_
      refine J_if_ne (tgt := 140) dX8_reckonAll_127 (by decide) (fun c => ?_) (fun c => ?_)
      · replace K := K.2 c
        refine J_iload rfl dX8_reckonAll_140 ?_
        refine J_iconst (by decide) dX8_reckonAll_142 ?_
        refine J_icmp_ge (tgt := 156) dX8_reckonAll_143 (by decide) (fun c => ?_) (fun c => ?_)
        · replace K := K.1 c
          refine J_iload rfl dX8_reckonAll_156 ?_
          refine J_iconst (by decide) dX8_reckonAll_158 ?_
          refine J_icmp_ne (tgt := 189) dX8_reckonAll_159 (by decide) (fun c => ?_) (fun c => ?_)
          · replace K := K.2 c
            refine J_iload rfl dX8_reckonAll_189 ?_
            refine J_bipush (by decide) (by decide) dX8_reckonAll_191 ?_
            refine J_icmp_ne (tgt := 223) dX8_reckonAll_193 (by decide) (fun c => ?_) (fun c => ?_)
            · replace K := K.2 c
              refine J_aload_n rfl dX8_reckonAll_223 ?_
              refine J_iload rfl dX8_reckonAll_224 ?_
              refine J_b0 (J_callV (b1 := 0) (ci := 8) (vs := [vI y6]) (rest := [vI y3, vR (some 20)]) (Or.inl rfl) ml_RX8_203 rfl (by decide) rfl rfl (Or.inl rfl) (Nat.le_of_ble_eq_true rfl) rfl dX8_reckonAll_226 (c_X8_isDoor  K.1 ?_))
              replace K := K.2
              show J _ _ _ _ _ _ _ [vI (b2i ((0 : Int) ≤ y6 ∧ y6 < gi h 2 1)), vI y3, vR (some 20)] _
              refine J_if_eq (tgt := 246) dX8_reckonAll_229 (by decide) (fun c => ?_) (fun c => ?_)
              · replace K := K.2 (b2i_0.mp c)
                refine J_lconst (x := 0) (by decide) (by decide) dX8_reckonAll_246 ?_
                refine J_lastore (Or.inl rfl) K.1 dX8_reckonAll_247 ?_
                replace K := K.2
                replace K := K _ rfl
                refine J_iinc (loc' := [some (vR (some 0)), none, some (vI y2), some (vI (y3 + 1)), some (vI y4), some (vI y5), some (vI y6)]) (by decide) rfl K.1 rfl dX8_reckonAll_248 ?_
                replace K := K.2
                refine J_goto (tgt := 393) dX8_reckonAll_251 (by decide) ?_
                refine J_goto (tgt := 10) dX8_reckonAll_393 (by decide) ?_
                exact J_forget (loc' := [some (vR (some 0)), none, some (vI y2), some (vI (y3 + 1)), some (vI y4), none, none]) (And.intro (Or.inr rfl) (And.intro (Or.inl rfl) (And.intro (Or.inr rfl) (And.intro (Or.inr rfl) (And.intro (Or.inr rfl) (And.intro (Or.inl rfl) (And.intro (Or.inl rfl) True.intro))))))) K
              · replace K := K.1 (b2i_n0.mp c)
                refine J_aload_n rfl dX8_reckonAll_232 ?_
                refine J_getS (r := 2) fl_RX8_13 rfl (Or.inl rfl) rfl dX8_reckonAll_233 ?_
                refine J_bipush (by decide) (by decide) dX8_reckonAll_236 ?_
                refine J_iload rfl dX8_reckonAll_238 ?_
                refine J_iadd K.1 dX8_reckonAll_240 ?_
                replace K := K.2
                refine J_iaload (Or.inl rfl) K.1 dX8_reckonAll_241 ?_
                replace K := K.2
                refine J_i2l dX8_reckonAll_242 ?_
                refine J_goto (tgt := 247) dX8_reckonAll_243 (by decide) ?_
                refine J_lastore (Or.inl rfl) K.1 dX8_reckonAll_247 ?_
                replace K := K.2
                replace K := K _ rfl
                refine J_iinc (loc' := [some (vR (some 0)), none, some (vI y2), some (vI (y3 + 1)), some (vI y4), some (vI y5), some (vI y6)]) (by decide) rfl K.1 rfl dX8_reckonAll_248 ?_
                replace K := K.2
                refine J_goto (tgt := 393) dX8_reckonAll_251 (by decide) ?_
                refine J_goto (tgt := 10) dX8_reckonAll_393 (by decide) ?_
                exact J_forget (loc' := [some (vR (some 0)), none, some (vI y2), some (vI (y3 + 1)), some (vI y4), none, none]) (And.intro (Or.inr rfl) (And.intro (Or.inl rfl) (And.intro (Or.inr rfl) (And.intro (Or.inr rfl) (And.intro (Or.inr rfl) (And.intro (Or.inl rfl) (And.intro (Or.inl rfl) True.intro))))))) K
            · replace K := K.1 c
              refine J_aload_n rfl dX8_reckonAll_196 ?_
              refine J_iload rfl dX8_reckonAll_197 ?_
              refine J_b0 (J_callV (b1 := 0) (ci := 8) (vs := [vI y6]) (rest := [vI y3, vR (some 20)]) (Or.inl rfl) ml_RX8_203 rfl (by decide) rfl rfl (Or.inl rfl) (Nat.le_of_ble_eq_true rfl) rfl dX8_reckonAll_199 (c_X8_isDoor  K.1 ?_))
              replace K := K.2
              show J _ _ _ _ _ _ _ [vI (b2i ((0 : Int) ≤ y6 ∧ y6 < gi h 2 1)), vI y3, vR (some 20)] _
              refine J_if_eq (tgt := 218) dX8_reckonAll_202 (by decide) (fun c => ?_) (fun c => ?_)
              · replace K := K.2 (b2i_0.mp c)
                refine J_iconst (by decide) dX8_reckonAll_218 ?_
                refine J_i2l dX8_reckonAll_219 ?_
                refine J_goto (tgt := 247) dX8_reckonAll_220 (by decide) ?_
                refine J_lastore (Or.inl rfl) K.1 dX8_reckonAll_247 ?_
                replace K := K.2
                replace K := K _ rfl
                refine J_iinc (loc' := [some (vR (some 0)), none, some (vI y2), some (vI (y3 + 1)), some (vI y4), some (vI y5), some (vI y6)]) (by decide) rfl K.1 rfl dX8_reckonAll_248 ?_
                replace K := K.2
                refine J_goto (tgt := 393) dX8_reckonAll_251 (by decide) ?_
                refine J_goto (tgt := 10) dX8_reckonAll_393 (by decide) ?_
                exact J_forget (loc' := [some (vR (some 0)), none, some (vI y2), some (vI (y3 + 1)), some (vI y4), none, none]) (And.intro (Or.inr rfl) (And.intro (Or.inl rfl) (And.intro (Or.inr rfl) (And.intro (Or.inr rfl) (And.intro (Or.inr rfl) (And.intro (Or.inl rfl) (And.intro (Or.inl rfl) True.intro))))))) K
              · replace K := K.1 (b2i_n0.mp c)
                refine J_aload_n rfl dX8_reckonAll_205 ?_
                refine J_getS (r := 2) fl_RX8_13 rfl (Or.inl rfl) rfl dX8_reckonAll_206 ?_
                refine J_bipush (by decide) (by decide) dX8_reckonAll_209 ?_
                refine J_iload rfl dX8_reckonAll_211 ?_
                refine J_iadd K.1 dX8_reckonAll_213 ?_
                replace K := K.2
                refine J_iaload (Or.inl rfl) K.1 dX8_reckonAll_214 ?_
                replace K := K.2
                refine J_goto (tgt := 219) dX8_reckonAll_215 (by decide) ?_
                refine J_i2l dX8_reckonAll_219 ?_
                refine J_goto (tgt := 247) dX8_reckonAll_220 (by decide) ?_
                refine J_lastore (Or.inl rfl) K.1 dX8_reckonAll_247 ?_
                replace K := K.2
                replace K := K _ rfl
                refine J_iinc (loc' := [some (vR (some 0)), none, some (vI y2), some (vI (y3 + 1)), some (vI y4), some (vI y5), some (vI y6)]) (by decide) rfl K.1 rfl dX8_reckonAll_248 ?_
                replace K := K.2
                refine J_goto (tgt := 393) dX8_reckonAll_251 (by decide) ?_
                refine J_goto (tgt := 10) dX8_reckonAll_393 (by decide) ?_
                exact J_forget (loc' := [some (vR (some 0)), none, some (vI y2), some (vI (y3 + 1)), some (vI y4), none, none]) (And.intro (Or.inr rfl) (And.intro (Or.inl rfl) (And.intro (Or.inr rfl) (And.intro (Or.inr rfl) (And.intro (Or.inr rfl) (And.intro (Or.inl rfl) (And.intro (Or.inl rfl) True.intro))))))) K
          · replace K := K.1 c
            refine J_aload_n rfl dX8_reckonAll_162 ?_
            refine J_iload rfl dX8_reckonAll_163 ?_
            refine J_b0 (J_callV (b1 := 0) (ci := 8) (vs := [vI y6]) (rest := [vI y3, vR (some 20)]) (Or.inl rfl) ml_RX8_203 rfl (by decide) rfl rfl (Or.inl rfl) (Nat.le_of_ble_eq_true rfl) rfl dX8_reckonAll_165 (c_X8_isDoor  K.1 ?_))
            replace K := K.2
            show J _ _ _ _ _ _ _ [vI (b2i ((0 : Int) ≤ y6 ∧ y6 < gi h 2 1)), vI y3, vR (some 20)] _
            refine J_if_eq (tgt := 184) dX8_reckonAll_168 (by decide) (fun c => ?_) (fun c => ?_)
            · replace K := K.2 (b2i_0.mp c)
              refine J_iconst (by decide) dX8_reckonAll_184 ?_
              refine J_i2l dX8_reckonAll_185 ?_
              refine J_goto (tgt := 247) dX8_reckonAll_186 (by decide) ?_
              refine J_lastore (Or.inl rfl) K.1 dX8_reckonAll_247 ?_
              replace K := K.2
              replace K := K _ rfl
              refine J_iinc (loc' := [some (vR (some 0)), none, some (vI y2), some (vI (y3 + 1)), some (vI y4), some (vI y5), some (vI y6)]) (by decide) rfl K.1 rfl dX8_reckonAll_248 ?_
              replace K := K.2
              refine J_goto (tgt := 393) dX8_reckonAll_251 (by decide) ?_
              refine J_goto (tgt := 10) dX8_reckonAll_393 (by decide) ?_
              exact J_forget (loc' := [some (vR (some 0)), none, some (vI y2), some (vI (y3 + 1)), some (vI y4), none, none]) (And.intro (Or.inr rfl) (And.intro (Or.inl rfl) (And.intro (Or.inr rfl) (And.intro (Or.inr rfl) (And.intro (Or.inr rfl) (And.intro (Or.inl rfl) (And.intro (Or.inl rfl) True.intro))))))) K
            · replace K := K.1 (b2i_n0.mp c)
              refine J_aload_n rfl dX8_reckonAll_171 ?_
              refine J_getS (r := 2) fl_RX8_13 rfl (Or.inl rfl) rfl dX8_reckonAll_172 ?_
              refine J_bipush (by decide) (by decide) dX8_reckonAll_175 ?_
              refine J_iload rfl dX8_reckonAll_177 ?_
              refine J_iadd K.1 dX8_reckonAll_179 ?_
              replace K := K.2
              refine J_iaload (Or.inl rfl) K.1 dX8_reckonAll_180 ?_
              replace K := K.2
              refine J_goto (tgt := 185) dX8_reckonAll_181 (by decide) ?_
              refine J_i2l dX8_reckonAll_185 ?_
              refine J_goto (tgt := 247) dX8_reckonAll_186 (by decide) ?_
              refine J_lastore (Or.inl rfl) K.1 dX8_reckonAll_247 ?_
              replace K := K.2
              replace K := K _ rfl
              refine J_iinc (loc' := [some (vR (some 0)), none, some (vI y2), some (vI (y3 + 1)), some (vI y4), some (vI y5), some (vI y6)]) (by decide) rfl K.1 rfl dX8_reckonAll_248 ?_
              replace K := K.2
              refine J_goto (tgt := 393) dX8_reckonAll_251 (by decide) ?_
              refine J_goto (tgt := 10) dX8_reckonAll_393 (by decide) ?_
              exact J_forget (loc' := [some (vR (some 0)), none, some (vI y2), some (vI (y3 + 1)), some (vI y4), none, none]) (And.intro (Or.inr rfl) (And.intro (Or.inl rfl) (And.intro (Or.inr rfl) (And.intro (Or.inr rfl) (And.intro (Or.inr rfl) (And.intro (Or.inl rfl) (And.intro (Or.inl rfl) True.intro))))))) K
        · replace K := K.2 c
          refine J_aload_n rfl dX8_reckonAll_146 ?_
          refine J_getS (r := 19) fl_RX8_108 rfl (Or.inl rfl) rfl dX8_reckonAll_147 ?_
          refine J_iload rfl dX8_reckonAll_150 ?_
          refine J_laload (Or.inl rfl) K.1 dX8_reckonAll_152 ?_
          replace K := K.2
          refine J_goto (tgt := 247) dX8_reckonAll_153 (by decide) ?_
          refine J_lastore (Or.inl rfl) K.1 dX8_reckonAll_247 ?_
          replace K := K.2
          replace K := K _ rfl
          refine J_iinc (loc' := [some (vR (some 0)), none, some (vI y2), some (vI (y3 + 1)), some (vI y4), some (vI y5), some (vI y6)]) (by decide) rfl K.1 rfl dX8_reckonAll_248 ?_
          replace K := K.2
          refine J_goto (tgt := 393) dX8_reckonAll_251 (by decide) ?_
          refine J_goto (tgt := 10) dX8_reckonAll_393 (by decide) ?_
          exact J_forget (loc' := [some (vR (some 0)), none, some (vI y2), some (vI (y3 + 1)), some (vI y4), none, none]) (And.intro (Or.inr rfl) (And.intro (Or.inl rfl) (And.intro (Or.inr rfl) (And.intro (Or.inr rfl) (And.intro (Or.inr rfl) (And.intro (Or.inl rfl) (And.intro (Or.inl rfl) True.intro))))))) K
      · replace K := K.1 c
        refine J_aload_n rfl dX8_reckonAll_130 ?_
        refine J_getS (r := 18) fl_RX8_105 rfl (Or.inl rfl) rfl dX8_reckonAll_131 ?_
        refine J_iload rfl dX8_reckonAll_134 ?_
        refine J_laload (Or.inl rfl) K.1 dX8_reckonAll_136 ?_
        replace K := K.2
        refine J_goto (tgt := 247) dX8_reckonAll_137 (by decide) ?_
        refine J_lastore (Or.inl rfl) K.1 dX8_reckonAll_247 ?_
        replace K := K.2
        replace K := K _ rfl
        refine J_iinc (loc' := [some (vR (some 0)), none, some (vI y2), some (vI (y3 + 1)), some (vI y4), some (vI y5), some (vI y6)]) (by decide) rfl K.1 rfl dX8_reckonAll_248 ?_
        replace K := K.2
        refine J_goto (tgt := 393) dX8_reckonAll_251 (by decide) ?_
        refine J_goto (tgt := 10) dX8_reckonAll_393 (by decide) ?_
        exact J_forget (loc' := [some (vR (some 0)), none, some (vI y2), some (vI (y3 + 1)), some (vI y4), none, none]) (And.intro (Or.inr rfl) (And.intro (Or.inl rfl) (And.intro (Or.inr rfl) (And.intro (Or.inr rfl) (And.intro (Or.inr rfl) (And.intro (Or.inl rfl) (And.intro (Or.inl rfl) True.intro))))))) K
    · replace K := K.1 c
      refine J_iload rfl dX8_reckonAll_117 ?_
      refine J_i2l dX8_reckonAll_119 ?_
      refine J_goto (tgt := 247) dX8_reckonAll_120 (by decide) ?_
      refine J_lastore (Or.inl rfl) K.1 dX8_reckonAll_247 ?_
      replace K := K.2
      replace K := K _ rfl
      refine J_iinc (loc' := [some (vR (some 0)), none, some (vI y2), some (vI (y3 + 1)), some (vI y4), some (vI y5), some (vI y6)]) (by decide) rfl K.1 rfl dX8_reckonAll_248 ?_
      replace K := K.2
      refine J_goto (tgt := 393) dX8_reckonAll_251 (by decide) ?_
      refine J_goto (tgt := 10) dX8_reckonAll_393 (by decide) ?_
      exact J_forget (loc' := [some (vR (some 0)), none, some (vI y2), some (vI (y3 + 1)), some (vI y4), none, none]) (And.intro (Or.inr rfl) (And.intro (Or.inl rfl) (And.intro (Or.inr rfl) (And.intro (Or.inr rfl) (And.intro (Or.inr rfl) (And.intro (Or.inl rfl) (And.intro (Or.inl rfl) True.intro))))))) K
set_option maxRecDepth 20000 in
set_option maxHeartbeats 2000000 in
theorem w_X8_reckonAll {d b : Nat} {Q : Option AV → AH → Prop} {h : AH} {x1 : Int} {x2 : Int}  (K : ∀ h1, h1 = si h 0 38 0 → Lp_X8_reckonAll_10 d b Q x2 0 x1 h1) : WM GM (d + 2) b mX8_reckonAll [vR (some 0), vI x1, vI x2] h Q := by
  refine WM_introE (loc' := [some (vR (some 0)), some (vI x1), some (vI x2), none, none, none, none]) rfl (by decide) (Nat.le_of_ble_eq_true rfl) ?_
  refine J_aload_n rfl dX8_reckonAll_0 ?_
  refine J_iconst (by decide) dX8_reckonAll_1 ?_
  refine J_putZ fl_RX8_398 rfl (by decide) (Or.inl rfl) dX8_reckonAll_2 ?_
  replace K := K _ rfl
  refine J_iconst (by decide) dX8_reckonAll_5 ?_
  refine J_istore_n (loc' := [some (vR (some 0)), some (vI x1), some (vI x2), some (vI 0), none, none, none]) (by decide) rfl dX8_reckonAll_6 ?_
  refine J_iload_n rfl dX8_reckonAll_7 ?_
  refine J_istore (loc' := [some (vR (some 0)), some (vI x1), some (vI x2), some (vI 0), some (vI x1), none, none]) (by decide) rfl dX8_reckonAll_8 ?_
  exact J_forget (loc' := [some (vR (some 0)), none, some (vI x2), some (vI 0), some (vI x1), none, none]) (And.intro (Or.inr rfl) (And.intro (Or.inl rfl) (And.intro (Or.inr rfl) (And.intro (Or.inr rfl) (And.intro (Or.inr rfl) (And.intro (Or.inl rfl) (And.intro (Or.inl rfl) True.intro))))))) K
set_option maxRecDepth 20000 in
set_option maxHeartbeats 2000000 in
theorem w_X8_isSo {d b : Nat} {Q : Option AV → AH → Prop} {h : AH} {x1 : Int}  (K : R32 (x1 + 5) ∧ (0 ≤ x1 + 5 ∧ x1 + 5 < 5540) ∧ R32 (x1 + 6) ∧ (0 ≤ x1 + 6 ∧ x1 + 6 < 5540) ∧ (gi h 2 (x1 + 6) ≤ gi h 2 (x1 + 5) → (0 ≤ x1 ∧ x1 < 5540) ∧ (2 ≤ gi h 2 x1 → Q (some (vI 1)) h) ∧ (¬(2 ≤ gi h 2 x1) → R32 (x1 + 3) ∧ (0 ≤ x1 + 3 ∧ x1 + 3 < 5540) ∧ R32 (x1 + 4) ∧ (0 ≤ x1 + 4 ∧ x1 + 4 < 5540) ∧ WM GM (d + 2) 0 mX8_reckonAll [vR (some 0), vI (gi h 2 (x1 + 3)), vI (gi h 2 (x1 + 4))] h (fun r h1 => r = none ∧ ∀ h2, h2 = sl h1 0 40 (gl h1 0 39) → (gi h1 0 38 = 0 → Q (some (vI 1)) h2) ∧ (¬(gi h1 0 38 = 0) → Q (some (vI 0)) h2)))) ∧ (¬(gi h 2 (x1 + 6) ≤ gi h 2 (x1 + 5)) → R32 (x1 + 5) ∧ (0 ≤ x1 + 5 ∧ x1 + 5 < 5540) ∧ R32 (x1 + 6) ∧ (0 ≤ x1 + 6 ∧ x1 + 6 < 5540) ∧ WM GM (d + 2) 0 mX8_reckonAll [vR (some 0), vI (gi h 2 (x1 + 5)), vI (gi h 2 (x1 + 6))] h (fun r h3 => r = none ∧ (gi h3 0 38 = 0 → (gl h3 0 39 = 0 → Q (some (vI 0)) h3) ∧ (¬(gl h3 0 39 = 0) → (0 ≤ x1 ∧ x1 < 5540) ∧ (2 ≤ gi h3 2 x1 → Q (some (vI 1)) h3) ∧ (¬(2 ≤ gi h3 2 x1) → R32 (x1 + 3) ∧ (0 ≤ x1 + 3 ∧ x1 + 3 < 5540) ∧ R32 (x1 + 4) ∧ (0 ≤ x1 + 4 ∧ x1 + 4 < 5540) ∧ WM GM (d + 2) 0 mX8_reckonAll [vR (some 0), vI (gi h3 2 (x1 + 3)), vI (gi h3 2 (x1 + 4))] h3 (fun r h4 => r = none ∧ ∀ h5, h5 = sl h4 0 40 (gl h4 0 39) → (gi h4 0 38 = 0 → Q (some (vI 1)) h5) ∧ (¬(gi h4 0 38 = 0) → Q (some (vI 0)) h5))))) ∧ (¬(gi h3 0 38 = 0) → Q (some (vI 0)) h3)))) : WM GM (d + 3) b mX8_isSo [vR (some 0), vI x1] h Q := by
  refine WM_introE (loc' := [some (vR (some 0)), some (vI x1)]) rfl (by decide) (Nat.le_of_ble_eq_true rfl) ?_
  refine J_aload_n rfl dX8_isSo_0 ?_
  refine J_getS (r := 2) fl_RX8_13 rfl (Or.inl rfl) rfl dX8_isSo_1 ?_
  refine J_iload_n rfl dX8_isSo_4 ?_
  refine J_iconst (by decide) dX8_isSo_5 ?_
  refine J_iadd K.1 dX8_isSo_6 ?_
  replace K := K.2
  refine J_iaload (Or.inl rfl) K.1 dX8_isSo_7 ?_
  replace K := K.2
  refine J_aload_n rfl dX8_isSo_8 ?_
  refine J_getS (r := 2) fl_RX8_13 rfl (Or.inl rfl) rfl dX8_isSo_9 ?_
  refine J_iload_n rfl dX8_isSo_12 ?_
  refine J_bipush (by decide) (by decide) dX8_isSo_13 ?_
  refine J_iadd K.1 dX8_isSo_15 ?_
  replace K := K.2
  refine J_iaload (Or.inl rfl) K.1 dX8_isSo_16 ?_
  replace K := K.2
  refine J_icmp_ge (tgt := 59) dX8_isSo_17 (by decide) (fun c => ?_) (fun c => ?_)
  · replace K := K.1 c
    refine J_aload_n rfl dX8_isSo_59 ?_
    refine J_getS (r := 2) fl_RX8_13 rfl (Or.inl rfl) rfl dX8_isSo_60 ?_
    refine J_iload_n rfl dX8_isSo_63 ?_
    refine J_iaload (Or.inl rfl) K.1 dX8_isSo_64 ?_
    replace K := K.2
    refine J_iconst (by decide) dX8_isSo_65 ?_
    refine J_icmp_ge (tgt := 110) dX8_isSo_66 (by decide) (fun c => ?_) (fun c => ?_)
    · replace K := K.1 c
      refine J_iconst (by decide) dX8_isSo_110 ?_
      exact J_zreturn ⟨rfl, by decide⟩ dX8_isSo_111 K
    · replace K := K.2 c
      refine J_aload_n rfl dX8_isSo_69 ?_
      refine J_aload_n rfl dX8_isSo_70 ?_
      refine J_getS (r := 2) fl_RX8_13 rfl (Or.inl rfl) rfl dX8_isSo_71 ?_
      refine J_iload_n rfl dX8_isSo_74 ?_
      refine J_iconst (by decide) dX8_isSo_75 ?_
      refine J_iadd K.1 dX8_isSo_76 ?_
      replace K := K.2
      refine J_iaload (Or.inl rfl) K.1 dX8_isSo_77 ?_
      replace K := K.2
      refine J_aload_n rfl dX8_isSo_78 ?_
      refine J_getS (r := 2) fl_RX8_13 rfl (Or.inl rfl) rfl dX8_isSo_79 ?_
      refine J_iload_n rfl dX8_isSo_82 ?_
      refine J_iconst (by decide) dX8_isSo_83 ?_
      refine J_iadd K.1 dX8_isSo_84 ?_
      replace K := K.2
      refine J_iaload (Or.inl rfl) K.1 dX8_isSo_85 ?_
      replace K := K.2
      refine J_b0 (J_callV (b1 := 0) (ci := 8) (vs := [vI (gi h 2 (x1 + 3)), vI (gi h 2 (x1 + 4))]) (rest := []) (Or.inl rfl) ml_RX8_415 rfl (by decide) rfl rfl (Or.inl rfl) (Nat.le_of_ble_eq_true rfl) rfl dX8_isSo_86 (WM_mono K (fun r h1 K => ?_)))
      obtain ⟨rfl, K⟩ := K
      show J _ _ _ _ _ _ _ [] _
      refine J_aload_n rfl dX8_isSo_89 ?_
      refine J_aload_n rfl dX8_isSo_90 ?_
      refine J_getL fl_RX8_412 rfl (Or.inl rfl) dX8_isSo_91 ?_
      refine J_putL fl_RX8_418 rfl (Or.inl rfl) dX8_isSo_94 ?_
      replace K := K _ rfl
      refine J_aload_n rfl dX8_isSo_97 ?_
      refine J_getIe fl_RX8_398 rfl (Or.inl rfl) gi_xl dX8_isSo_98 ?_
      refine J_if_ne (tgt := 108) dX8_isSo_101 (by decide) (fun c => ?_) (fun c => ?_)
      · replace K := K.2 c
        refine J_iconst (by decide) dX8_isSo_108 ?_
        exact J_zreturn ⟨rfl, by decide⟩ dX8_isSo_109 K
      · replace K := K.1 c
        refine J_iconst (by decide) dX8_isSo_104 ?_
        refine J_goto (tgt := 109) dX8_isSo_105 (by decide) ?_
        exact J_zreturn ⟨rfl, by decide⟩ dX8_isSo_109 K
  · replace K := K.2 c
    refine J_aload_n rfl dX8_isSo_20 ?_
    refine J_aload_n rfl dX8_isSo_21 ?_
    refine J_getS (r := 2) fl_RX8_13 rfl (Or.inl rfl) rfl dX8_isSo_22 ?_
    refine J_iload_n rfl dX8_isSo_25 ?_
    refine J_iconst (by decide) dX8_isSo_26 ?_
    refine J_iadd K.1 dX8_isSo_27 ?_
    replace K := K.2
    refine J_iaload (Or.inl rfl) K.1 dX8_isSo_28 ?_
    replace K := K.2
    refine J_aload_n rfl dX8_isSo_29 ?_
    refine J_getS (r := 2) fl_RX8_13 rfl (Or.inl rfl) rfl dX8_isSo_30 ?_
    refine J_iload_n rfl dX8_isSo_33 ?_
    refine J_bipush (by decide) (by decide) dX8_isSo_34 ?_
    refine J_iadd K.1 dX8_isSo_36 ?_
    replace K := K.2
    refine J_iaload (Or.inl rfl) K.1 dX8_isSo_37 ?_
    replace K := K.2
    refine J_b0 (J_callV (b1 := 0) (ci := 8) (vs := [vI (gi h 2 (x1 + 5)), vI (gi h 2 (x1 + 6))]) (rest := []) (Or.inl rfl) ml_RX8_415 rfl (by decide) rfl rfl (Or.inl rfl) (Nat.le_of_ble_eq_true rfl) rfl dX8_isSo_38 (WM_mono K (fun r h3 K => ?_)))
    obtain ⟨rfl, K⟩ := K
    show J _ _ _ _ _ _ _ [] _
    refine J_aload_n rfl dX8_isSo_41 ?_
    refine J_getI fl_RX8_398 rfl (Or.inl rfl) dX8_isSo_42 ?_
    refine J_if_ne (tgt := 57) dX8_isSo_45 (by decide) (fun c => ?_) (fun c => ?_)
    · replace K := K.2 c
      refine J_iconst (by decide) dX8_isSo_57 ?_
      exact J_zreturn ⟨rfl, by decide⟩ dX8_isSo_58 K
    · replace K := K.1 c
      refine J_aload_n rfl dX8_isSo_48 ?_
      refine J_getL fl_RX8_412 rfl (Or.inl rfl) dX8_isSo_49 ?_
      refine J_lconst (x := 0) (by decide) (by decide) dX8_isSo_52 ?_
      refine J_lcmp dX8_isSo_53 ?_
      refine J_if_ne (tgt := 59) dX8_isSo_54 (by decide) (fun c => ?_) (fun c => ?_)
      · replace K := K.2 (fun z => c (zc_eq.mpr z))
        refine J_aload_n rfl dX8_isSo_59 ?_
        refine J_getS (r := 2) fl_RX8_13 rfl (Or.inl rfl) rfl dX8_isSo_60 ?_
        refine J_iload_n rfl dX8_isSo_63 ?_
        refine J_iaload (Or.inl rfl) K.1 dX8_isSo_64 ?_
        replace K := K.2
        refine J_iconst (by decide) dX8_isSo_65 ?_
        refine J_icmp_ge (tgt := 110) dX8_isSo_66 (by decide) (fun c => ?_) (fun c => ?_)
        · replace K := K.1 c
          refine J_iconst (by decide) dX8_isSo_110 ?_
          exact J_zreturn ⟨rfl, by decide⟩ dX8_isSo_111 K
        · replace K := K.2 c
          refine J_aload_n rfl dX8_isSo_69 ?_
          refine J_aload_n rfl dX8_isSo_70 ?_
          refine J_getS (r := 2) fl_RX8_13 rfl (Or.inl rfl) rfl dX8_isSo_71 ?_
          refine J_iload_n rfl dX8_isSo_74 ?_
          refine J_iconst (by decide) dX8_isSo_75 ?_
          refine J_iadd K.1 dX8_isSo_76 ?_
          replace K := K.2
          refine J_iaload (Or.inl rfl) K.1 dX8_isSo_77 ?_
          replace K := K.2
          refine J_aload_n rfl dX8_isSo_78 ?_
          refine J_getS (r := 2) fl_RX8_13 rfl (Or.inl rfl) rfl dX8_isSo_79 ?_
          refine J_iload_n rfl dX8_isSo_82 ?_
          refine J_iconst (by decide) dX8_isSo_83 ?_
          refine J_iadd K.1 dX8_isSo_84 ?_
          replace K := K.2
          refine J_iaload (Or.inl rfl) K.1 dX8_isSo_85 ?_
          replace K := K.2
          refine J_b0 (J_callV (b1 := 0) (ci := 8) (vs := [vI _, vI _]) (rest := []) (Or.inl rfl) ml_RX8_415 rfl (by decide) rfl rfl (Or.inl rfl) (Nat.le_of_ble_eq_true rfl) rfl dX8_isSo_86 (WM_mono K (fun r h4 K => ?_)))
          obtain ⟨rfl, K⟩ := K
          show J _ _ _ _ _ _ _ [] _
          refine J_aload_n rfl dX8_isSo_89 ?_
          refine J_aload_n rfl dX8_isSo_90 ?_
          refine J_getL fl_RX8_412 rfl (Or.inl rfl) dX8_isSo_91 ?_
          refine J_putL fl_RX8_418 rfl (Or.inl rfl) dX8_isSo_94 ?_
          replace K := K _ rfl
          refine J_aload_n rfl dX8_isSo_97 ?_
          refine J_getIe fl_RX8_398 rfl (Or.inl rfl) gi_xl dX8_isSo_98 ?_
          refine J_if_ne (tgt := 108) dX8_isSo_101 (by decide) (fun c => ?_) (fun c => ?_)
          · replace K := K.2 c
            refine J_iconst (by decide) dX8_isSo_108 ?_
            exact J_zreturn ⟨rfl, by decide⟩ dX8_isSo_109 K
          · replace K := K.1 c
            refine J_iconst (by decide) dX8_isSo_104 ?_
            refine J_goto (tgt := 109) dX8_isSo_105 (by decide) ?_
            exact J_zreturn ⟨rfl, by decide⟩ dX8_isSo_109 K
      · replace K := K.1 (zc_eq.mp c)
        refine J_iconst (by decide) dX8_isSo_57 ?_
        exact J_zreturn ⟨rfl, by decide⟩ dX8_isSo_58 K
def Lp_X8_tells_189 (d b : Nat) (Q : Option AV → AH → Prop)  (y1 : Int) (y9 : Int) (y11 : Int) (h : AH) : Prop := J GM (d + 4) b mX8_tells Q 189 [some (vR (some 0)), some (vI y1), none, none, none, none, none, none, none, some (vL y9), none, some (vI y11), none] [] h
set_option maxRecDepth 20000 in
set_option maxHeartbeats 2000000 in
theorem l_X8_tells_189 {d b : Nat} {Q : Option AV → AH → Prop} {h : AH}  {y1 : Int} {y9 : Int} {y11 : Int}  (K : R32 ((gi h 0 34) + 1) ∧ (0 ≤ (gi h 0 34) + 1 ∧ (gi h 0 34) + 1 < 5540) ∧ (gi h 2 ((gi h 0 34) + 1) ≤ y11 → Q (some (vL y9)) h) ∧ (¬(gi h 2 ((gi h 0 34) + 1) ≤ y11) → R32 ((gi h 0 34) + 2) ∧ R32 (8 * y11) ∧ R32 (((gi h 0 34) + 2) + (8 * y11)) ∧ (0 ≤ ((gi h 0 34) + 2) + (8 * y11) ∧ ((gi h 0 34) + 2) + (8 * y11) < 5540) ∧ (gi h 2 (((gi h 0 34) + 2) + (8 * y11)) = y1 → WM GM (d + 3) 0 mX8_isSo [vR (some 0), vI (((gi h 0 34) + 2) + (8 * y11))] h (fun r h1 => ∃ x1, r = some (vI x1) ∧ (x1 = 0 → R32 (y11 + 1) ∧ Lp_X8_tells_189 d b Q y1 y9 (y11 + 1) h1) ∧ (¬(x1 = 0) → (2 ≤ y1 → R32 (y11 + 1) ∧ Lp_X8_tells_189 d b Q y1 1 (y11 + 1) h1) ∧ (¬(2 ≤ y1) → R32 (y11 + 1) ∧ Lp_X8_tells_189 d b Q y1 (gl h1 0 40) (y11 + 1) h1)))) ∧ (¬(gi h 2 (((gi h 0 34) + 2) + (8 * y11)) = y1) → R32 (y11 + 1) ∧ Lp_X8_tells_189 d b Q y1 y9 (y11 + 1) h))) : Lp_X8_tells_189 d b Q y1 y9 y11 h := by
  unfold Lp_X8_tells_189
  refine J_iload rfl dX8_tells_189 ?_
  refine J_aload_n rfl dX8_tells_191 ?_
  refine J_getS (r := 2) fl_RX8_13 rfl (Or.inl rfl) rfl dX8_tells_192 ?_
  refine J_aload_n rfl dX8_tells_195 ?_
  refine J_getI fl_RX8_401 rfl (Or.inl rfl) dX8_tells_196 ?_
  refine J_iconst (by decide) dX8_tells_199 ?_
  refine J_iadd K.1 dX8_tells_200 ?_
  replace K := K.2
  refine J_iaload (Or.inl rfl) K.1 dX8_tells_201 ?_
  replace K := K.2
  refine J_icmp_ge (tgt := 260) dX8_tells_202 (by decide) (fun c => ?_) (fun c => ?_)
  · replace K := K.1 c
    refine J_lload rfl dX8_tells_260 ?_
    exact J_lreturn rfl dX8_tells_262 K
  · replace K := K.2 c
    refine J_aload_n rfl dX8_tells_205 ?_
    refine J_getI fl_RX8_401 rfl (Or.inl rfl) dX8_tells_206 ?_
    refine J_iconst (by decide) dX8_tells_209 ?_
    refine J_iadd K.1 dX8_tells_210 ?_
    replace K := K.2
    refine J_bipush (by decide) (by decide) dX8_tells_211 ?_
    refine J_iload rfl dX8_tells_213 ?_
    refine J_imul K.1 dX8_tells_215 ?_
    replace K := K.2
    refine J_iadd K.1 dX8_tells_216 ?_
    replace K := K.2
    refine J_istore (loc' := [some (vR (some 0)), some (vI y1), none, none, none, none, none, none, none, some (vL y9), none, some (vI y11), some (vI (((gi h 0 34) + 2) + (8 * y11)))]) (by decide) rfl dX8_tells_217 ?_
    refine J_aload_n rfl dX8_tells_219 ?_
    refine J_getS (r := 2) fl_RX8_13 rfl (Or.inl rfl) rfl dX8_tells_220 ?_
    refine J_iload rfl dX8_tells_223 ?_
    refine J_iaload (Or.inl rfl) K.1 dX8_tells_225 ?_
    replace K := K.2
    refine J_iload_n rfl dX8_tells_226 ?_
    refine J_icmp_ne (tgt := 254) dX8_tells_227 (by decide) (fun c => ?_) (fun c => ?_)
    · replace K := K.2 c
      refine J_iinc (loc' := [some (vR (some 0)), some (vI y1), none, none, none, none, none, none, none, some (vL y9), none, some (vI (y11 + 1)), some (vI (((gi h 0 34) + 2) + (8 * y11)))]) (by decide) rfl K.1 rfl dX8_tells_254 ?_
      replace K := K.2
      refine J_goto (tgt := 189) dX8_tells_257 (by decide) ?_
      exact J_forget (loc' := [some (vR (some 0)), some (vI y1), none, none, none, none, none, none, none, some (vL y9), none, some (vI (y11 + 1)), none]) (And.intro (Or.inr rfl) (And.intro (Or.inr rfl) (And.intro (Or.inl rfl) (And.intro (Or.inl rfl) (And.intro (Or.inl rfl) (And.intro (Or.inl rfl) (And.intro (Or.inl rfl) (And.intro (Or.inl rfl) (And.intro (Or.inl rfl) (And.intro (Or.inr rfl) (And.intro (Or.inl rfl) (And.intro (Or.inr rfl) (And.intro (Or.inl rfl) True.intro))))))))))))) K
    · replace K := K.1 c
      refine J_aload_n rfl dX8_tells_230 ?_
      refine J_iload rfl dX8_tells_231 ?_
      refine J_b0 (J_callV (b1 := 0) (ci := 8) (vs := [vI (((gi h 0 34) + 2) + (8 * y11))]) (rest := []) (Or.inl rfl) ml_RX8_421 rfl (by decide) rfl rfl (Or.inl rfl) (Nat.le_of_ble_eq_true rfl) rfl dX8_tells_233 (WM_mono K (fun r h1 K => ?_)))
      obtain ⟨x1, rfl, K⟩ := K
      show J _ _ _ _ _ _ _ [vI x1] _
      refine J_if_eq (tgt := 254) dX8_tells_236 (by decide) (fun c => ?_) (fun c => ?_)
      · replace K := K.1 c
        refine J_iinc (loc' := [some (vR (some 0)), some (vI y1), none, none, none, none, none, none, none, some (vL y9), none, some (vI (y11 + 1)), some (vI (((gi h 0 34) + 2) + (8 * y11)))]) (by decide) rfl K.1 rfl dX8_tells_254 ?_
        replace K := K.2
        refine J_goto (tgt := 189) dX8_tells_257 (by decide) ?_
        exact J_forget (loc' := [some (vR (some 0)), some (vI y1), none, none, none, none, none, none, none, some (vL y9), none, some (vI (y11 + 1)), none]) (And.intro (Or.inr rfl) (And.intro (Or.inr rfl) (And.intro (Or.inl rfl) (And.intro (Or.inl rfl) (And.intro (Or.inl rfl) (And.intro (Or.inl rfl) (And.intro (Or.inl rfl) (And.intro (Or.inl rfl) (And.intro (Or.inl rfl) (And.intro (Or.inr rfl) (And.intro (Or.inl rfl) (And.intro (Or.inr rfl) (And.intro (Or.inl rfl) True.intro))))))))))))) K
      · replace K := K.2 c
        refine J_iload_n rfl dX8_tells_239 ?_
        refine J_iconst (by decide) dX8_tells_240 ?_
        refine J_icmp_ge (tgt := 251) dX8_tells_241 (by decide) (fun c => ?_) (fun c => ?_)
        · replace K := K.1 c
          refine J_lconst (x := 1) (by decide) (by decide) dX8_tells_251 ?_
          refine J_lstore (loc' := [some (vR (some 0)), some (vI y1), none, none, none, none, none, none, none, some (vL 1), none, some (vI y11), some (vI (((gi h 0 34) + 2) + (8 * y11)))]) (by decide) rfl dX8_tells_252 ?_
          refine J_iinc (loc' := [some (vR (some 0)), some (vI y1), none, none, none, none, none, none, none, some (vL 1), none, some (vI (y11 + 1)), some (vI (((gi h 0 34) + 2) + (8 * y11)))]) (by decide) rfl K.1 rfl dX8_tells_254 ?_
          replace K := K.2
          refine J_goto (tgt := 189) dX8_tells_257 (by decide) ?_
          exact J_forget (loc' := [some (vR (some 0)), some (vI y1), none, none, none, none, none, none, none, some (vL 1), none, some (vI (y11 + 1)), none]) (And.intro (Or.inr rfl) (And.intro (Or.inr rfl) (And.intro (Or.inl rfl) (And.intro (Or.inl rfl) (And.intro (Or.inl rfl) (And.intro (Or.inl rfl) (And.intro (Or.inl rfl) (And.intro (Or.inl rfl) (And.intro (Or.inl rfl) (And.intro (Or.inr rfl) (And.intro (Or.inl rfl) (And.intro (Or.inr rfl) (And.intro (Or.inl rfl) True.intro))))))))))))) K
        · replace K := K.2 c
          refine J_aload_n rfl dX8_tells_244 ?_
          refine J_getL fl_RX8_418 rfl (Or.inl rfl) dX8_tells_245 ?_
          refine J_goto (tgt := 252) dX8_tells_248 (by decide) ?_
          refine J_lstore (loc' := [some (vR (some 0)), some (vI y1), none, none, none, none, none, none, none, some (vL _), none, some (vI y11), some (vI (((gi h 0 34) + 2) + (8 * y11)))]) (by decide) rfl dX8_tells_252 ?_
          refine J_iinc (loc' := [some (vR (some 0)), some (vI y1), none, none, none, none, none, none, none, some (vL _), none, some (vI (y11 + 1)), some (vI (((gi h 0 34) + 2) + (8 * y11)))]) (by decide) rfl K.1 rfl dX8_tells_254 ?_
          replace K := K.2
          refine J_goto (tgt := 189) dX8_tells_257 (by decide) ?_
          exact J_forget (loc' := [some (vR (some 0)), some (vI y1), none, none, none, none, none, none, none, some (vL _), none, some (vI (y11 + 1)), none]) (And.intro (Or.inr rfl) (And.intro (Or.inr rfl) (And.intro (Or.inl rfl) (And.intro (Or.inl rfl) (And.intro (Or.inl rfl) (And.intro (Or.inl rfl) (And.intro (Or.inl rfl) (And.intro (Or.inl rfl) (And.intro (Or.inl rfl) (And.intro (Or.inr rfl) (And.intro (Or.inl rfl) (And.intro (Or.inr rfl) (And.intro (Or.inl rfl) True.intro))))))))))))) K
set_option maxRecDepth 20000 in
set_option maxHeartbeats 2000000 in
theorem w_X8_tells {d b : Nat} {Q : Option AV → AH → Prop} {h : AH} {x1 : Int} {x2 : Int} {x3 : Int} {x4 : Int} {x5 : Int} {x6 : Int} {x7 : Int}  (K : (gi h 2 4 = (-1) → Q (some (vL x7)) h) ∧ (¬(gi h 2 4 = (-1)) → R32 (900 * (gi h 2 4)) ∧ R32 (140 + (900 * (gi h 2 4))) ∧ ∀ h1, h1 = si h 0 34 (140 + (900 * (gi h 2 4))) → ∀ h2, h2 = sl h1 18 1 x2 → R32 (72 + x2) ∧ (0 ≤ 72 + x2 ∧ 72 + x2 < 5540) ∧ ∀ h3, h3 = sl h2 18 2 (gi h 2 (72 + x2)) → R32 (80 + x2) ∧ (0 ≤ 80 + x2 ∧ 80 + x2 < 5540) ∧ ∀ h4, h4 = sl h3 18 3 (gi h 2 (80 + x2)) → R32 (88 + x2) ∧ (0 ≤ 88 + x2 ∧ 88 + x2 < 5540) ∧ ∀ h5, h5 = sl h4 18 4 (gi h 2 (88 + x2)) → ∀ h6, h6 = sl h5 18 5 x3 → (x3 = (-1) → ∀ h13, h13 = sl h6 18 6 (-1) → ∀ h14, h14 = sl h13 18 7 x4 → ∀ h15, h15 = sl h14 18 8 x5 → ∀ h16, h16 = sl h15 18 9 x6 → ∀ h17, h17 = sl h16 18 10 (gi h 2 5) → ∀ h18, h18 = sl h17 18 11 (gi h 2 6) → Lp_X8_tells_189 d b Q x1 x7 0 h18) ∧ (¬(x3 = (-1)) → R32 (64 + x3) ∧ (0 ≤ 64 + x3 ∧ 64 + x3 < 5540) ∧ ∀ h7, h7 = sl h6 18 6 (gi h 2 (64 + x3)) → ∀ h8, h8 = sl h7 18 7 x4 → ∀ h9, h9 = sl h8 18 8 x5 → ∀ h10, h10 = sl h9 18 9 x6 → ∀ h11, h11 = sl h10 18 10 (gi h 2 5) → ∀ h12, h12 = sl h11 18 11 (gi h 2 6) → Lp_X8_tells_189 d b Q x1 x7 0 h12))) : WM GM (d + 4) b mX8_tells [vR (some 0), vI x1, vI x2, vI x3, vI x4, vI x5, vI x6, vL x7] h Q := by
  refine WM_introE (loc' := [some (vR (some 0)), some (vI x1), some (vI x2), some (vI x3), some (vI x4), some (vI x5), some (vI x6), some (vL x7), none, none, none, none, none]) rfl (by decide) (Nat.le_of_ble_eq_true rfl) ?_
  refine J_aload_n rfl dX8_tells_0 ?_
  refine J_getS (r := 2) fl_RX8_13 rfl (Or.inl rfl) rfl dX8_tells_1 ?_
  refine J_iconst (by decide) dX8_tells_4 ?_
  refine J_iaload (Or.inl rfl) (by decide) dX8_tells_5 ?_
  refine J_iconst (by decide) dX8_tells_6 ?_
  refine J_icmp_ne (tgt := 13) dX8_tells_7 (by decide) (fun c => ?_) (fun c => ?_)
  · replace K := K.2 c
    refine J_aload_n rfl dX8_tells_13 ?_
    refine J_sipush (by decide) (by decide) dX8_tells_14 ?_
    refine J_sipush (by decide) (by decide) dX8_tells_17 ?_
    refine J_aload_n rfl dX8_tells_20 ?_
    refine J_getS (r := 2) fl_RX8_13 rfl (Or.inl rfl) rfl dX8_tells_21 ?_
    refine J_iconst (by decide) dX8_tells_24 ?_
    refine J_iaload (Or.inl rfl) (by decide) dX8_tells_25 ?_
    refine J_imul K.1 dX8_tells_26 ?_
    replace K := K.2
    refine J_iadd K.1 dX8_tells_27 ?_
    replace K := K.2
    refine J_putI fl_RX8_401 rfl (Or.inl rfl) dX8_tells_28 ?_
    replace K := K _ rfl
    refine J_aload_n rfl dX8_tells_31 ?_
    refine J_getS (r := 18) fl_RX8_105 rfl (Or.inl rfl) rfl dX8_tells_32 ?_
    refine J_iconst (by decide) dX8_tells_35 ?_
    refine J_iload_n rfl dX8_tells_36 ?_
    refine J_i2l dX8_tells_37 ?_
    refine J_lastore (Or.inl rfl) (by decide) dX8_tells_38 ?_
    replace K := K _ rfl
    refine J_aload_n rfl dX8_tells_39 ?_
    refine J_getS (r := 18) fl_RX8_105 rfl (Or.inl rfl) rfl dX8_tells_40 ?_
    refine J_iconst (by decide) dX8_tells_43 ?_
    refine J_aload_n rfl dX8_tells_44 ?_
    refine J_getS (r := 2) fl_RX8_13 rfl (Or.inl rfl) rfl dX8_tells_45 ?_
    refine J_bipush (by decide) (by decide) dX8_tells_48 ?_
    refine J_iload_n rfl dX8_tells_50 ?_
    refine J_iadd K.1 dX8_tells_51 ?_
    replace K := K.2
    refine J_ialoade (Or.inl rfl) K.1 (Eq.trans gi_xl (gi_no (by decide))) dX8_tells_52 ?_
    replace K := K.2
    refine J_i2l dX8_tells_53 ?_
    refine J_lastore (Or.inl rfl) (by decide) dX8_tells_54 ?_
    replace K := K _ rfl
    refine J_aload_n rfl dX8_tells_55 ?_
    refine J_getS (r := 18) fl_RX8_105 rfl (Or.inl rfl) rfl dX8_tells_56 ?_
    refine J_iconst (by decide) dX8_tells_59 ?_
    refine J_aload_n rfl dX8_tells_60 ?_
    refine J_getS (r := 2) fl_RX8_13 rfl (Or.inl rfl) rfl dX8_tells_61 ?_
    refine J_bipush (by decide) (by decide) dX8_tells_64 ?_
    refine J_iload_n rfl dX8_tells_66 ?_
    refine J_iadd K.1 dX8_tells_67 ?_
    replace K := K.2
    refine J_ialoade (Or.inl rfl) K.1 (Eq.trans gi_xl (Eq.trans gi_xl (gi_no (by decide)))) dX8_tells_68 ?_
    replace K := K.2
    refine J_i2l dX8_tells_69 ?_
    refine J_lastore (Or.inl rfl) (by decide) dX8_tells_70 ?_
    replace K := K _ rfl
    refine J_aload_n rfl dX8_tells_71 ?_
    refine J_getS (r := 18) fl_RX8_105 rfl (Or.inl rfl) rfl dX8_tells_72 ?_
    refine J_iconst (by decide) dX8_tells_75 ?_
    refine J_aload_n rfl dX8_tells_76 ?_
    refine J_getS (r := 2) fl_RX8_13 rfl (Or.inl rfl) rfl dX8_tells_77 ?_
    refine J_bipush (by decide) (by decide) dX8_tells_80 ?_
    refine J_iload_n rfl dX8_tells_82 ?_
    refine J_iadd K.1 dX8_tells_83 ?_
    replace K := K.2
    refine J_ialoade (Or.inl rfl) K.1 (Eq.trans gi_xl (Eq.trans gi_xl (Eq.trans gi_xl (gi_no (by decide))))) dX8_tells_84 ?_
    replace K := K.2
    refine J_i2l dX8_tells_85 ?_
    refine J_lastore (Or.inl rfl) (by decide) dX8_tells_86 ?_
    replace K := K _ rfl
    refine J_aload_n rfl dX8_tells_87 ?_
    refine J_getS (r := 18) fl_RX8_105 rfl (Or.inl rfl) rfl dX8_tells_88 ?_
    refine J_iconst (by decide) dX8_tells_91 ?_
    refine J_iload_n rfl dX8_tells_92 ?_
    refine J_i2l dX8_tells_93 ?_
    refine J_lastore (Or.inl rfl) (by decide) dX8_tells_94 ?_
    replace K := K _ rfl
    refine J_aload_n rfl dX8_tells_95 ?_
    refine J_getS (r := 18) fl_RX8_105 rfl (Or.inl rfl) rfl dX8_tells_96 ?_
    refine J_bipush (by decide) (by decide) dX8_tells_99 ?_
    refine J_iload_n rfl dX8_tells_101 ?_
    refine J_iconst (by decide) dX8_tells_102 ?_
    refine J_icmp_ne (tgt := 112) dX8_tells_103 (by decide) (fun c => ?_) (fun c => ?_)
    · replace K := K.2 c
      refine J_aload_n rfl dX8_tells_112 ?_
      refine J_getS (r := 2) fl_RX8_13 rfl (Or.inl rfl) rfl dX8_tells_113 ?_
      refine J_bipush (by decide) (by decide) dX8_tells_116 ?_
      refine J_iload_n rfl dX8_tells_118 ?_
      refine J_iadd K.1 dX8_tells_119 ?_
      replace K := K.2
      refine J_ialoade (Or.inl rfl) K.1 (Eq.trans gi_xl (Eq.trans gi_xl (Eq.trans gi_xl (Eq.trans gi_xl (Eq.trans gi_xl (gi_no (by decide))))))) dX8_tells_120 ?_
      replace K := K.2
      refine J_i2l dX8_tells_121 ?_
      refine J_lastore (Or.inl rfl) (by decide) dX8_tells_122 ?_
      replace K := K _ rfl
      refine J_aload_n rfl dX8_tells_123 ?_
      refine J_getS (r := 18) fl_RX8_105 rfl (Or.inl rfl) rfl dX8_tells_124 ?_
      refine J_bipush (by decide) (by decide) dX8_tells_127 ?_
      refine J_iload rfl dX8_tells_129 ?_
      refine J_i2l dX8_tells_131 ?_
      refine J_lastore (Or.inl rfl) (by decide) dX8_tells_132 ?_
      replace K := K _ rfl
      refine J_aload_n rfl dX8_tells_133 ?_
      refine J_getS (r := 18) fl_RX8_105 rfl (Or.inl rfl) rfl dX8_tells_134 ?_
      refine J_bipush (by decide) (by decide) dX8_tells_137 ?_
      refine J_iload rfl dX8_tells_139 ?_
      refine J_i2l dX8_tells_141 ?_
      refine J_lastore (Or.inl rfl) (by decide) dX8_tells_142 ?_
      replace K := K _ rfl
      refine J_aload_n rfl dX8_tells_143 ?_
      refine J_getS (r := 18) fl_RX8_105 rfl (Or.inl rfl) rfl dX8_tells_144 ?_
      refine J_bipush (by decide) (by decide) dX8_tells_147 ?_
      refine J_iload rfl dX8_tells_149 ?_
      refine J_i2l dX8_tells_151 ?_
      refine J_lastore (Or.inl rfl) (by decide) dX8_tells_152 ?_
      replace K := K _ rfl
      refine J_aload_n rfl dX8_tells_153 ?_
      refine J_getS (r := 18) fl_RX8_105 rfl (Or.inl rfl) rfl dX8_tells_154 ?_
      refine J_bipush (by decide) (by decide) dX8_tells_157 ?_
      refine J_aload_n rfl dX8_tells_159 ?_
      refine J_getS (r := 2) fl_RX8_13 rfl (Or.inl rfl) rfl dX8_tells_160 ?_
      refine J_iconst (by decide) dX8_tells_163 ?_
      refine J_ialoade (Or.inl rfl) (by decide) (Eq.trans gi_xl (Eq.trans gi_xl (Eq.trans gi_xl (Eq.trans gi_xl (Eq.trans gi_xl (Eq.trans gi_xl (Eq.trans gi_xl (Eq.trans gi_xl (Eq.trans gi_xl (gi_no (by decide))))))))))) dX8_tells_164 ?_
      refine J_i2l dX8_tells_165 ?_
      refine J_lastore (Or.inl rfl) (by decide) dX8_tells_166 ?_
      replace K := K _ rfl
      refine J_aload_n rfl dX8_tells_167 ?_
      refine J_getS (r := 18) fl_RX8_105 rfl (Or.inl rfl) rfl dX8_tells_168 ?_
      refine J_bipush (by decide) (by decide) dX8_tells_171 ?_
      refine J_aload_n rfl dX8_tells_173 ?_
      refine J_getS (r := 2) fl_RX8_13 rfl (Or.inl rfl) rfl dX8_tells_174 ?_
      refine J_bipush (by decide) (by decide) dX8_tells_177 ?_
      refine J_ialoade (Or.inl rfl) (by decide) (Eq.trans gi_xl (Eq.trans gi_xl (Eq.trans gi_xl (Eq.trans gi_xl (Eq.trans gi_xl (Eq.trans gi_xl (Eq.trans gi_xl (Eq.trans gi_xl (Eq.trans gi_xl (Eq.trans gi_xl (gi_no (by decide)))))))))))) dX8_tells_179 ?_
      refine J_i2l dX8_tells_180 ?_
      refine J_lastore (Or.inl rfl) (by decide) dX8_tells_181 ?_
      replace K := K _ rfl
      refine J_lload rfl dX8_tells_182 ?_
      refine J_lstore (loc' := [some (vR (some 0)), some (vI x1), some (vI x2), some (vI x3), some (vI x4), some (vI x5), some (vI x6), some (vL x7), none, some (vL x7), none, none, none]) (by decide) rfl dX8_tells_184 ?_
      refine J_iconst (by decide) dX8_tells_186 ?_
      refine J_istore (loc' := [some (vR (some 0)), some (vI x1), some (vI x2), some (vI x3), some (vI x4), some (vI x5), some (vI x6), some (vL x7), none, some (vL x7), none, some (vI 0), none]) (by decide) rfl dX8_tells_187 ?_
      exact J_forget (loc' := [some (vR (some 0)), some (vI x1), none, none, none, none, none, none, none, some (vL x7), none, some (vI 0), none]) (And.intro (Or.inr rfl) (And.intro (Or.inr rfl) (And.intro (Or.inl rfl) (And.intro (Or.inl rfl) (And.intro (Or.inl rfl) (And.intro (Or.inl rfl) (And.intro (Or.inl rfl) (And.intro (Or.inl rfl) (And.intro (Or.inl rfl) (And.intro (Or.inr rfl) (And.intro (Or.inl rfl) (And.intro (Or.inr rfl) (And.intro (Or.inl rfl) True.intro))))))))))))) K
    · replace K := K.1 c
      refine J_ldc2 (n := (-1)) (by decide) (by decide) kc_RX8_277 dX8_tells_106 ?_
      refine J_goto (tgt := 122) dX8_tells_109 (by decide) ?_
      refine J_lastore (Or.inl rfl) (by decide) dX8_tells_122 ?_
      replace K := K _ rfl
      refine J_aload_n rfl dX8_tells_123 ?_
      refine J_getS (r := 18) fl_RX8_105 rfl (Or.inl rfl) rfl dX8_tells_124 ?_
      refine J_bipush (by decide) (by decide) dX8_tells_127 ?_
      refine J_iload rfl dX8_tells_129 ?_
      refine J_i2l dX8_tells_131 ?_
      refine J_lastore (Or.inl rfl) (by decide) dX8_tells_132 ?_
      replace K := K _ rfl
      refine J_aload_n rfl dX8_tells_133 ?_
      refine J_getS (r := 18) fl_RX8_105 rfl (Or.inl rfl) rfl dX8_tells_134 ?_
      refine J_bipush (by decide) (by decide) dX8_tells_137 ?_
      refine J_iload rfl dX8_tells_139 ?_
      refine J_i2l dX8_tells_141 ?_
      refine J_lastore (Or.inl rfl) (by decide) dX8_tells_142 ?_
      replace K := K _ rfl
      refine J_aload_n rfl dX8_tells_143 ?_
      refine J_getS (r := 18) fl_RX8_105 rfl (Or.inl rfl) rfl dX8_tells_144 ?_
      refine J_bipush (by decide) (by decide) dX8_tells_147 ?_
      refine J_iload rfl dX8_tells_149 ?_
      refine J_i2l dX8_tells_151 ?_
      refine J_lastore (Or.inl rfl) (by decide) dX8_tells_152 ?_
      replace K := K _ rfl
      refine J_aload_n rfl dX8_tells_153 ?_
      refine J_getS (r := 18) fl_RX8_105 rfl (Or.inl rfl) rfl dX8_tells_154 ?_
      refine J_bipush (by decide) (by decide) dX8_tells_157 ?_
      refine J_aload_n rfl dX8_tells_159 ?_
      refine J_getS (r := 2) fl_RX8_13 rfl (Or.inl rfl) rfl dX8_tells_160 ?_
      refine J_iconst (by decide) dX8_tells_163 ?_
      refine J_ialoade (Or.inl rfl) (by decide) (Eq.trans gi_xl (Eq.trans gi_xl (Eq.trans gi_xl (Eq.trans gi_xl (Eq.trans gi_xl (Eq.trans gi_xl (Eq.trans gi_xl (Eq.trans gi_xl (Eq.trans gi_xl (gi_no (by decide))))))))))) dX8_tells_164 ?_
      refine J_i2l dX8_tells_165 ?_
      refine J_lastore (Or.inl rfl) (by decide) dX8_tells_166 ?_
      replace K := K _ rfl
      refine J_aload_n rfl dX8_tells_167 ?_
      refine J_getS (r := 18) fl_RX8_105 rfl (Or.inl rfl) rfl dX8_tells_168 ?_
      refine J_bipush (by decide) (by decide) dX8_tells_171 ?_
      refine J_aload_n rfl dX8_tells_173 ?_
      refine J_getS (r := 2) fl_RX8_13 rfl (Or.inl rfl) rfl dX8_tells_174 ?_
      refine J_bipush (by decide) (by decide) dX8_tells_177 ?_
      refine J_ialoade (Or.inl rfl) (by decide) (Eq.trans gi_xl (Eq.trans gi_xl (Eq.trans gi_xl (Eq.trans gi_xl (Eq.trans gi_xl (Eq.trans gi_xl (Eq.trans gi_xl (Eq.trans gi_xl (Eq.trans gi_xl (Eq.trans gi_xl (gi_no (by decide)))))))))))) dX8_tells_179 ?_
      refine J_i2l dX8_tells_180 ?_
      refine J_lastore (Or.inl rfl) (by decide) dX8_tells_181 ?_
      replace K := K _ rfl
      refine J_lload rfl dX8_tells_182 ?_
      refine J_lstore (loc' := [some (vR (some 0)), some (vI x1), some (vI x2), some (vI x3), some (vI x4), some (vI x5), some (vI x6), some (vL x7), none, some (vL x7), none, none, none]) (by decide) rfl dX8_tells_184 ?_
      refine J_iconst (by decide) dX8_tells_186 ?_
      refine J_istore (loc' := [some (vR (some 0)), some (vI x1), some (vI x2), some (vI x3), some (vI x4), some (vI x5), some (vI x6), some (vL x7), none, some (vL x7), none, some (vI 0), none]) (by decide) rfl dX8_tells_187 ?_
      exact J_forget (loc' := [some (vR (some 0)), some (vI x1), none, none, none, none, none, none, none, some (vL x7), none, some (vI 0), none]) (And.intro (Or.inr rfl) (And.intro (Or.inr rfl) (And.intro (Or.inl rfl) (And.intro (Or.inl rfl) (And.intro (Or.inl rfl) (And.intro (Or.inl rfl) (And.intro (Or.inl rfl) (And.intro (Or.inl rfl) (And.intro (Or.inl rfl) (And.intro (Or.inr rfl) (And.intro (Or.inl rfl) (And.intro (Or.inr rfl) (And.intro (Or.inl rfl) True.intro))))))))))))) K
  · replace K := K.1 c
    refine J_lload rfl dX8_tells_10 ?_
    exact J_lreturn rfl dX8_tells_12 K
def Lp_X8_tellsFits_4 (d b : Nat) (Q : Option AV → AH → Prop)  (y1 : Int) (y2 : Int) (h : AH) : Prop := J GM d b mX8_tellsFits Q 4 [some (vR (some 0)), some (vI y1), some (vI y2)] [] h
set_option maxRecDepth 20000 in
set_option maxHeartbeats 2000000 in
theorem l_X8_tellsFits_4 {d b : Nat} {Q : Option AV → AH → Prop} {h : AH}  {y1 : Int} {y2 : Int}  (K : (gi h 2 4 = (-1) → (y1 = 0 ∨ y1 = 1) ∧ Q (some (vI y1)) h) ∧ (¬(gi h 2 4 = (-1)) → R32 (900 * (gi h 2 4)) ∧ R32 (140 + (900 * (gi h 2 4))) ∧ R32 ((140 + (900 * (gi h 2 4))) + 1) ∧ (0 ≤ (140 + (900 * (gi h 2 4))) + 1 ∧ (140 + (900 * (gi h 2 4))) + 1 < 5540) ∧ (gi h 2 ((140 + (900 * (gi h 2 4))) + 1) ≤ y2 → (y1 = 0 ∨ y1 = 1) ∧ Q (some (vI y1)) h) ∧ (¬(gi h 2 ((140 + (900 * (gi h 2 4))) + 1) ≤ y2) → (y1 = 0 → R32 (900 * (gi h 2 4)) ∧ R32 (140 + (900 * (gi h 2 4))) ∧ R32 ((140 + (900 * (gi h 2 4))) + 2) ∧ R32 (8 * y2) ∧ R32 (((140 + (900 * (gi h 2 4))) + 2) + (8 * y2)) ∧ (0 ≤ ((140 + (900 * (gi h 2 4))) + 2) + (8 * y2) ∧ ((140 + (900 * (gi h 2 4))) + 2) + (8 * y2) < 5540) ∧ (gi h 2 (((140 + (900 * (gi h 2 4))) + 2) + (8 * y2)) = 2 → R32 (y2 + 1) ∧ Lp_X8_tellsFits_4 d b Q 1 (y2 + 1) h) ∧ (¬(gi h 2 (((140 + (900 * (gi h 2 4))) + 2) + (8 * y2)) = 2) → R32 (y2 + 1) ∧ Lp_X8_tellsFits_4 d b Q 0 (y2 + 1) h)) ∧ (¬(y1 = 0) → R32 (y2 + 1) ∧ Lp_X8_tellsFits_4 d b Q 1 (y2 + 1) h)))) : Lp_X8_tellsFits_4 d b Q y1 y2 h := by
  unfold Lp_X8_tellsFits_4
  refine J_aload_n rfl dX8_tellsFits_4 ?_
  refine J_getS (r := 2) fl_RX8_13 rfl (Or.inl rfl) rfl dX8_tellsFits_5 ?_
  refine J_iconst (by decide) dX8_tellsFits_8 ?_
  refine J_iaload (Or.inl rfl) (by decide) dX8_tellsFits_9 ?_
  refine J_iconst (by decide) dX8_tellsFits_10 ?_
  refine J_icmp_eq (tgt := 85) dX8_tellsFits_11 (by decide) (fun c => ?_) (fun c => ?_)
  · replace K := K.1 c
    refine J_iload_n rfl dX8_tellsFits_85 ?_
    exact J_zreturn ⟨rfl, K.1⟩ dX8_tellsFits_86 K.2
  · replace K := K.2 c
    refine J_iload_n rfl dX8_tellsFits_14 ?_
    refine J_aload_n rfl dX8_tellsFits_15 ?_
    refine J_getS (r := 2) fl_RX8_13 rfl (Or.inl rfl) rfl dX8_tellsFits_16 ?_
    refine J_sipush (by decide) (by decide) dX8_tellsFits_19 ?_
    refine J_sipush (by decide) (by decide) dX8_tellsFits_22 ?_
    refine J_aload_n rfl dX8_tellsFits_25 ?_
    refine J_getS (r := 2) fl_RX8_13 rfl (Or.inl rfl) rfl dX8_tellsFits_26 ?_
    refine J_iconst (by decide) dX8_tellsFits_29 ?_
    refine J_iaload (Or.inl rfl) (by decide) dX8_tellsFits_30 ?_
    refine J_imul K.1 dX8_tellsFits_31 ?_
    replace K := K.2
    refine J_iadd K.1 dX8_tellsFits_32 ?_
    replace K := K.2
    refine J_iconst (by decide) dX8_tellsFits_33 ?_
    refine J_iadd K.1 dX8_tellsFits_34 ?_
    replace K := K.2
    refine J_iaload (Or.inl rfl) K.1 dX8_tellsFits_35 ?_
    replace K := K.2
    refine J_icmp_ge (tgt := 85) dX8_tellsFits_36 (by decide) (fun c => ?_) (fun c => ?_)
    · replace K := K.1 c
      refine J_iload_n rfl dX8_tellsFits_85 ?_
      exact J_zreturn ⟨rfl, K.1⟩ dX8_tellsFits_86 K.2
    · replace K := K.2 c
      refine J_iload_n rfl dX8_tellsFits_39 ?_
      refine J_if_ne (tgt := 73) dX8_tellsFits_40 (by decide) (fun c => ?_) (fun c => ?_)
      · replace K := K.2 c
        refine J_iconst (by decide) dX8_tellsFits_73 ?_
        refine J_goto (tgt := 78) dX8_tellsFits_74 (by decide) ?_
        refine J_istore_n (loc' := [some (vR (some 0)), some (vI 1), some (vI y2)]) (by decide) rfl dX8_tellsFits_78 ?_
        refine J_iinc (loc' := [some (vR (some 0)), some (vI 1), some (vI (y2 + 1))]) (by decide) rfl K.1 rfl dX8_tellsFits_79 ?_
        replace K := K.2
        refine J_goto (tgt := 4) dX8_tellsFits_82 (by decide) ?_
        exact J_forget (loc' := [some (vR (some 0)), some (vI 1), some (vI (y2 + 1))]) (And.intro (Or.inr rfl) (And.intro (Or.inr rfl) (And.intro (Or.inr rfl) True.intro))) K
      · replace K := K.1 c
        refine J_aload_n rfl dX8_tellsFits_43 ?_
        refine J_getS (r := 2) fl_RX8_13 rfl (Or.inl rfl) rfl dX8_tellsFits_44 ?_
        refine J_sipush (by decide) (by decide) dX8_tellsFits_47 ?_
        refine J_sipush (by decide) (by decide) dX8_tellsFits_50 ?_
        refine J_aload_n rfl dX8_tellsFits_53 ?_
        refine J_getS (r := 2) fl_RX8_13 rfl (Or.inl rfl) rfl dX8_tellsFits_54 ?_
        refine J_iconst (by decide) dX8_tellsFits_57 ?_
        refine J_iaload (Or.inl rfl) (by decide) dX8_tellsFits_58 ?_
        refine J_imul K.1 dX8_tellsFits_59 ?_
        replace K := K.2
        refine J_iadd K.1 dX8_tellsFits_60 ?_
        replace K := K.2
        refine J_iconst (by decide) dX8_tellsFits_61 ?_
        refine J_iadd K.1 dX8_tellsFits_62 ?_
        replace K := K.2
        refine J_bipush (by decide) (by decide) dX8_tellsFits_63 ?_
        refine J_iload_n rfl dX8_tellsFits_65 ?_
        refine J_imul K.1 dX8_tellsFits_66 ?_
        replace K := K.2
        refine J_iadd K.1 dX8_tellsFits_67 ?_
        replace K := K.2
        refine J_iaload (Or.inl rfl) K.1 dX8_tellsFits_68 ?_
        replace K := K.2
        refine J_iconst (by decide) dX8_tellsFits_69 ?_
        refine J_icmp_ne (tgt := 77) dX8_tellsFits_70 (by decide) (fun c => ?_) (fun c => ?_)
        · replace K := K.2 c
          refine J_iconst (by decide) dX8_tellsFits_77 ?_
          refine J_istore_n (loc' := [some (vR (some 0)), some (vI 0), some (vI y2)]) (by decide) rfl dX8_tellsFits_78 ?_
          refine J_iinc (loc' := [some (vR (some 0)), some (vI 0), some (vI (y2 + 1))]) (by decide) rfl K.1 rfl dX8_tellsFits_79 ?_
          replace K := K.2
          refine J_goto (tgt := 4) dX8_tellsFits_82 (by decide) ?_
          exact J_forget (loc' := [some (vR (some 0)), some (vI 0), some (vI (y2 + 1))]) (And.intro (Or.inr rfl) (And.intro (Or.inr rfl) (And.intro (Or.inr rfl) True.intro))) K
        · replace K := K.1 c
          refine J_iconst (by decide) dX8_tellsFits_73 ?_
          refine J_goto (tgt := 78) dX8_tellsFits_74 (by decide) ?_
          refine J_istore_n (loc' := [some (vR (some 0)), some (vI 1), some (vI y2)]) (by decide) rfl dX8_tellsFits_78 ?_
          refine J_iinc (loc' := [some (vR (some 0)), some (vI 1), some (vI (y2 + 1))]) (by decide) rfl K.1 rfl dX8_tellsFits_79 ?_
          replace K := K.2
          refine J_goto (tgt := 4) dX8_tellsFits_82 (by decide) ?_
          exact J_forget (loc' := [some (vR (some 0)), some (vI 1), some (vI (y2 + 1))]) (And.intro (Or.inr rfl) (And.intro (Or.inr rfl) (And.intro (Or.inr rfl) True.intro))) K
set_option maxRecDepth 20000 in
set_option maxHeartbeats 2000000 in
theorem w_X8_tellsFits {d b : Nat} {Q : Option AV → AH → Prop} {h : AH}   (K : Lp_X8_tellsFits_4 d b Q 0 0 h) : WM GM d b mX8_tellsFits [vR (some 0)] h Q := by
  refine WM_introE (loc' := [some (vR (some 0)), none, none]) rfl (by decide) (Nat.le_of_ble_eq_true rfl) ?_
  refine J_iconst (by decide) dX8_tellsFits_0 ?_
  refine J_istore_n (loc' := [some (vR (some 0)), some (vI 0), none]) (by decide) rfl dX8_tellsFits_1 ?_
  refine J_iconst (by decide) dX8_tellsFits_2 ?_
  refine J_istore_n (loc' := [some (vR (some 0)), some (vI 0), some (vI 0)]) (by decide) rfl dX8_tellsFits_3 ?_
  exact J_forget (loc' := [some (vR (some 0)), some (vI 0), some (vI 0)]) (And.intro (Or.inr rfl) (And.intro (Or.inr rfl) (And.intro (Or.inr rfl) True.intro))) K
