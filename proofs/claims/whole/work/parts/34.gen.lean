def Lp_X2_shareOf_5 (d b : Nat) (Q : Option AV → AH → Prop)  (y1 : Int) (y2 : Int) (y3 : Int) (y4 : Int) (h : AH) : Prop := J GX d b mX2_shareOf Q 5 [some (vR (some 1)), some (vI y1), some (vI y2), some (vI y3), some (vI y4), none, none, none, none] [] h
def Lp_X2_shareOf_68 (d b : Nat) (Q : Option AV → AH → Prop)  (y1 : Int) (y2 : Int) (y3 : Int) (y4 : Int) (y5 : Int) (y6 : Int) (y7 : Int) (h : AH) : Prop := J GX d b mX2_shareOf Q 68 [some (vR (some 1)), some (vI y1), some (vI y2), some (vI y3), some (vI y4), some (vI y5), some (vI y6), some (vI y7), none] [] h
set_option maxRecDepth 20000 in
set_option maxHeartbeats 2000000 in
theorem l_X2_shareOf_5 {d b : Nat} {Q : Option AV → AH → Prop} {h : AH}  {y1 : Int} {y2 : Int} {y3 : Int} {y4 : Int}  (K : (gi h 1 2 ≤ y4 → (y3 = 0 → Q (some (vI (-1))) h) ∧ (¬(y3 = 0) → (0 ≤ y2 ∧ y2 < 8) ∧ R32 (y1 * (gi h 3 y2)) ∧ y3 ≠ 0 ∧ R32 (Int.tmod (y1 * (gi h 3 y2)) y3) ∧ Lp_X2_shareOf_68 d b Q y1 y2 y3 y1 0 (Int.tmod (y1 * (gi h 3 y2)) y3) 0 h)) ∧ (¬(gi h 1 2 ≤ y4) → (0 ≤ y4 ∧ y4 < 8) ∧ (gi h 8 y4 = (-1) → R32 (y4 + 1) ∧ Lp_X2_shareOf_5 d b Q y1 y2 y3 (y4 + 1) h) ∧ (¬(gi h 8 y4 = (-1)) → (0 ≤ y4 ∧ y4 < 8) ∧ R32 (y3 + (gi h 3 y4)) ∧ R32 (y4 + 1) ∧ Lp_X2_shareOf_5 d b Q y1 y2 (y3 + (gi h 3 y4)) (y4 + 1) h))) : Lp_X2_shareOf_5 d b Q y1 y2 y3 y4 h := by
  unfold Lp_X2_shareOf_5
  refine J_iload rfl dX2_shareOf_5 ?_
  refine J_aload_n rfl dX2_shareOf_7 ?_
  refine J_getI fl_RX2_30 rfl (Or.inl rfl) dX2_shareOf_8 ?_
  refine J_icmp_ge (tgt := 41) dX2_shareOf_11 (by decide) (fun c => ?_) (fun c => ?_)
  · replace K := K.1 c
    refine J_iload_n rfl dX2_shareOf_41 ?_
    refine J_if_ne (tgt := 47) dX2_shareOf_42 (by decide) (fun c => ?_) (fun c => ?_)
    · replace K := K.2 c
      refine J_iload_n rfl dX2_shareOf_47 ?_
      refine J_istore (loc' := [some (vR (some 1)), some (vI y1), some (vI y2), some (vI y3), some (vI y1), none, none, none, none]) (by decide) rfl dX2_shareOf_48 ?_
      refine J_iconst (by decide) dX2_shareOf_50 ?_
      refine J_istore (loc' := [some (vR (some 1)), some (vI y1), some (vI y2), some (vI y3), some (vI y1), some (vI 0), none, none, none]) (by decide) rfl dX2_shareOf_51 ?_
      refine J_iload_n rfl dX2_shareOf_53 ?_
      refine J_aload_n rfl dX2_shareOf_54 ?_
      refine J_getS (r := 3) fl_RX2_76 rfl (Or.inl rfl) rfl dX2_shareOf_55 ?_
      refine J_iload_n rfl dX2_shareOf_58 ?_
      refine J_iaload (Or.inl rfl) K.1 dX2_shareOf_59 ?_
      replace K := K.2
      refine J_imul K.1 dX2_shareOf_60 ?_
      replace K := K.2
      refine J_iload_n rfl dX2_shareOf_61 ?_
      refine J_irem K.1 K.2.1 dX2_shareOf_62 ?_
      replace K := K.2.2
      refine J_istore (loc' := [some (vR (some 1)), some (vI y1), some (vI y2), some (vI y3), some (vI y1), some (vI 0), some (vI (Int.tmod (y1 * (gi h 3 y2)) y3)), none, none]) (by decide) rfl dX2_shareOf_63 ?_
      refine J_iconst (by decide) dX2_shareOf_65 ?_
      refine J_istore (loc' := [some (vR (some 1)), some (vI y1), some (vI y2), some (vI y3), some (vI y1), some (vI 0), some (vI (Int.tmod (y1 * (gi h 3 y2)) y3)), some (vI 0), none]) (by decide) rfl dX2_shareOf_66 ?_
      exact J_forget (loc' := [some (vR (some 1)), some (vI y1), some (vI y2), some (vI y3), some (vI y1), some (vI 0), some (vI (Int.tmod (y1 * (gi h 3 y2)) y3)), some (vI 0), none]) (And.intro (Or.inr rfl) (And.intro (Or.inr rfl) (And.intro (Or.inr rfl) (And.intro (Or.inr rfl) (And.intro (Or.inr rfl) (And.intro (Or.inr rfl) (And.intro (Or.inr rfl) (And.intro (Or.inr rfl) (And.intro (Or.inl rfl) True.intro))))))))) K
    · replace K := K.1 c
      refine J_iconst (by decide) dX2_shareOf_45 ?_
      exact J_ireturn rfl dX2_shareOf_46 K
  · replace K := K.2 c
    refine J_aload_n rfl dX2_shareOf_14 ?_
    refine J_getS (r := 8) fl_RX2_101 rfl (Or.inl rfl) rfl dX2_shareOf_15 ?_
    refine J_iload rfl dX2_shareOf_18 ?_
    refine J_iaload (Or.inl rfl) K.1 dX2_shareOf_20 ?_
    replace K := K.2
    refine J_iconst (by decide) dX2_shareOf_21 ?_
    refine J_icmp_eq (tgt := 35) dX2_shareOf_22 (by decide) (fun c => ?_) (fun c => ?_)
    · replace K := K.1 c
      refine J_iinc (loc' := [some (vR (some 1)), some (vI y1), some (vI y2), some (vI y3), some (vI (y4 + 1)), none, none, none, none]) (by decide) rfl K.1 rfl dX2_shareOf_35 ?_
      replace K := K.2
      refine J_goto (tgt := 5) dX2_shareOf_38 (by decide) ?_
      exact J_forget (loc' := [some (vR (some 1)), some (vI y1), some (vI y2), some (vI y3), some (vI (y4 + 1)), none, none, none, none]) (And.intro (Or.inr rfl) (And.intro (Or.inr rfl) (And.intro (Or.inr rfl) (And.intro (Or.inr rfl) (And.intro (Or.inr rfl) (And.intro (Or.inl rfl) (And.intro (Or.inl rfl) (And.intro (Or.inl rfl) (And.intro (Or.inl rfl) True.intro))))))))) K
    · replace K := K.2 c
      refine J_iload_n rfl dX2_shareOf_25 ?_
      refine J_aload_n rfl dX2_shareOf_26 ?_
      refine J_getS (r := 3) fl_RX2_76 rfl (Or.inl rfl) rfl dX2_shareOf_27 ?_
      refine J_iload rfl dX2_shareOf_30 ?_
      refine J_iaload (Or.inl rfl) K.1 dX2_shareOf_32 ?_
      replace K := K.2
      refine J_iadd K.1 dX2_shareOf_33 ?_
      replace K := K.2
      refine J_istore_n (loc' := [some (vR (some 1)), some (vI y1), some (vI y2), some (vI (y3 + (gi h 3 y4))), some (vI y4), none, none, none, none]) (by decide) rfl dX2_shareOf_34 ?_
      refine J_iinc (loc' := [some (vR (some 1)), some (vI y1), some (vI y2), some (vI (y3 + (gi h 3 y4))), some (vI (y4 + 1)), none, none, none, none]) (by decide) rfl K.1 rfl dX2_shareOf_35 ?_
      replace K := K.2
      refine J_goto (tgt := 5) dX2_shareOf_38 (by decide) ?_
      exact J_forget (loc' := [some (vR (some 1)), some (vI y1), some (vI y2), some (vI (y3 + (gi h 3 y4))), some (vI (y4 + 1)), none, none, none, none]) (And.intro (Or.inr rfl) (And.intro (Or.inr rfl) (And.intro (Or.inr rfl) (And.intro (Or.inr rfl) (And.intro (Or.inr rfl) (And.intro (Or.inl rfl) (And.intro (Or.inl rfl) (And.intro (Or.inl rfl) (And.intro (Or.inl rfl) True.intro))))))))) K
set_option maxRecDepth 20000 in
set_option maxHeartbeats 2000000 in
theorem l_X2_shareOf_68 {d b : Nat} {Q : Option AV → AH → Prop} {h : AH}  {y1 : Int} {y2 : Int} {y3 : Int} {y4 : Int} {y5 : Int} {y6 : Int} {y7 : Int}  (K : (gi h 1 2 ≤ y7 → (0 ≤ y2 ∧ y2 < 8) ∧ R32 (y1 * (gi h 3 y2)) ∧ y3 ≠ 0 ∧ R32 (Int.tdiv (y1 * (gi h 3 y2)) y3) ∧ (y4 ≤ y5 → R32 ((Int.tdiv (y1 * (gi h 3 y2)) y3) + 0) ∧ Q (some (vI ((Int.tdiv (y1 * (gi h 3 y2)) y3) + 0))) h) ∧ (¬(y4 ≤ y5) → R32 ((Int.tdiv (y1 * (gi h 3 y2)) y3) + 1) ∧ Q (some (vI ((Int.tdiv (y1 * (gi h 3 y2)) y3) + 1))) h)) ∧ (¬(gi h 1 2 ≤ y7) → (0 ≤ y7 ∧ y7 < 8) ∧ (gi h 8 y7 = (-1) → R32 (y7 + 1) ∧ Lp_X2_shareOf_68 d b Q y1 y2 y3 y4 y5 y6 (y7 + 1) h) ∧ (¬(gi h 8 y7 = (-1)) → (0 ≤ y7 ∧ y7 < 8) ∧ R32 (y1 * (gi h 3 y7)) ∧ y3 ≠ 0 ∧ R32 (Int.tdiv (y1 * (gi h 3 y7)) y3) ∧ R32 (y4 - (Int.tdiv (y1 * (gi h 3 y7)) y3)) ∧ (0 ≤ y7 ∧ y7 < 8) ∧ R32 (y1 * (gi h 3 y7)) ∧ y3 ≠ 0 ∧ R32 (Int.tmod (y1 * (gi h 3 y7)) y3) ∧ (y6 < Int.tmod (y1 * (gi h 3 y7)) y3 → R32 (y5 + 1) ∧ R32 (y7 + 1) ∧ Lp_X2_shareOf_68 d b Q y1 y2 y3 (y4 - (Int.tdiv (y1 * (gi h 3 y7)) y3)) (y5 + 1) y6 (y7 + 1) h) ∧ (¬(y6 < Int.tmod (y1 * (gi h 3 y7)) y3) → (Int.tmod (y1 * (gi h 3 y7)) y3 = y6 → (y2 ≤ y7 → R32 (y7 + 1) ∧ Lp_X2_shareOf_68 d b Q y1 y2 y3 (y4 - (Int.tdiv (y1 * (gi h 3 y7)) y3)) y5 y6 (y7 + 1) h) ∧ (¬(y2 ≤ y7) → R32 (y5 + 1) ∧ R32 (y7 + 1) ∧ Lp_X2_shareOf_68 d b Q y1 y2 y3 (y4 - (Int.tdiv (y1 * (gi h 3 y7)) y3)) (y5 + 1) y6 (y7 + 1) h)) ∧ (¬(Int.tmod (y1 * (gi h 3 y7)) y3 = y6) → R32 (y7 + 1) ∧ Lp_X2_shareOf_68 d b Q y1 y2 y3 (y4 - (Int.tdiv (y1 * (gi h 3 y7)) y3)) y5 y6 (y7 + 1) h))))) : Lp_X2_shareOf_68 d b Q y1 y2 y3 y4 y5 y6 y7 h := by
  unfold Lp_X2_shareOf_68
  refine J_iload rfl dX2_shareOf_68 ?_
  refine J_aload_n rfl dX2_shareOf_70 ?_
  refine J_getI fl_RX2_30 rfl (Or.inl rfl) dX2_shareOf_71 ?_
  refine J_icmp_ge (tgt := 149) dX2_shareOf_74 (by decide) (fun c => ?_) (fun c => ?_)
  · replace K := K.1 c
    refine J_iload_n rfl dX2_shareOf_149 ?_
    refine J_aload_n rfl dX2_shareOf_150 ?_
    refine J_getS (r := 3) fl_RX2_76 rfl (Or.inl rfl) rfl dX2_shareOf_151 ?_
    refine J_iload_n rfl dX2_shareOf_154 ?_
    refine J_iaload (Or.inl rfl) K.1 dX2_shareOf_155 ?_
    replace K := K.2
    refine J_imul K.1 dX2_shareOf_156 ?_
    replace K := K.2
    refine J_iload_n rfl dX2_shareOf_157 ?_
    refine J_idiv K.1 K.2.1 dX2_shareOf_158 ?_
    replace K := K.2.2
    refine J_iload rfl dX2_shareOf_159 ?_
    refine J_iload rfl dX2_shareOf_161 ?_
    refine J_icmp_ge (tgt := 170) dX2_shareOf_163 (by decide) (fun c => ?_) (fun c => ?_)
    · replace K := K.1 c
      refine J_iconst (by decide) dX2_shareOf_170 ?_
      refine J_iadd K.1 dX2_shareOf_171 ?_
      replace K := K.2
      exact J_ireturn rfl dX2_shareOf_172 K
    · replace K := K.2 c
      refine J_iconst (by decide) dX2_shareOf_166 ?_
      refine J_goto (tgt := 171) dX2_shareOf_167 (by decide) ?_
      refine J_iadd K.1 dX2_shareOf_171 ?_
      replace K := K.2
      exact J_ireturn rfl dX2_shareOf_172 K
  · replace K := K.2 c
    refine J_aload_n rfl dX2_shareOf_77 ?_
    refine J_getS (r := 8) fl_RX2_101 rfl (Or.inl rfl) rfl dX2_shareOf_78 ?_
    refine J_iload rfl dX2_shareOf_81 ?_
    refine J_iaload (Or.inl rfl) K.1 dX2_shareOf_83 ?_
    replace K := K.2
    refine J_iconst (by decide) dX2_shareOf_84 ?_
    refine J_icmp_ne (tgt := 91) dX2_shareOf_85 (by decide) (fun c => ?_) (fun c => ?_)
    · replace K := K.2 c
      refine J_iload rfl dX2_shareOf_91 ?_
      refine J_iload_n rfl dX2_shareOf_93 ?_
      refine J_aload_n rfl dX2_shareOf_94 ?_
      refine J_getS (r := 3) fl_RX2_76 rfl (Or.inl rfl) rfl dX2_shareOf_95 ?_
      refine J_iload rfl dX2_shareOf_98 ?_
      refine J_iaload (Or.inl rfl) K.1 dX2_shareOf_100 ?_
      replace K := K.2
      refine J_imul K.1 dX2_shareOf_101 ?_
      replace K := K.2
      refine J_iload_n rfl dX2_shareOf_102 ?_
      refine J_idiv K.1 K.2.1 dX2_shareOf_103 ?_
      replace K := K.2.2
      refine J_isub K.1 dX2_shareOf_104 ?_
      replace K := K.2
      refine J_istore (loc' := [some (vR (some 1)), some (vI y1), some (vI y2), some (vI y3), some (vI (y4 - (Int.tdiv (y1 * (gi h 3 y7)) y3))), some (vI y5), some (vI y6), some (vI y7), none]) (by decide) rfl dX2_shareOf_105 ?_
      refine J_iload_n rfl dX2_shareOf_107 ?_
      refine J_aload_n rfl dX2_shareOf_108 ?_
      refine J_getS (r := 3) fl_RX2_76 rfl (Or.inl rfl) rfl dX2_shareOf_109 ?_
      refine J_iload rfl dX2_shareOf_112 ?_
      refine J_iaload (Or.inl rfl) K.1 dX2_shareOf_114 ?_
      replace K := K.2
      refine J_imul K.1 dX2_shareOf_115 ?_
      replace K := K.2
      refine J_iload_n rfl dX2_shareOf_116 ?_
      refine J_irem K.1 K.2.1 dX2_shareOf_117 ?_
      replace K := K.2.2
      refine J_istore (loc' := [some (vR (some 1)), some (vI y1), some (vI y2), some (vI y3), some (vI (y4 - (Int.tdiv (y1 * (gi h 3 y7)) y3))), some (vI y5), some (vI y6), some (vI y7), some (vI (Int.tmod (y1 * (gi h 3 y7)) y3))]) (by decide) rfl dX2_shareOf_118 ?_
      refine J_iload rfl dX2_shareOf_120 ?_
      refine J_iload rfl dX2_shareOf_122 ?_
      refine J_icmp_gt (tgt := 140) dX2_shareOf_124 (by decide) (fun c => ?_) (fun c => ?_)
      · replace K := K.1 c
        refine J_iinc (loc' := [some (vR (some 1)), some (vI y1), some (vI y2), some (vI y3), some (vI (y4 - (Int.tdiv (y1 * (gi h 3 y7)) y3))), some (vI (y5 + 1)), some (vI y6), some (vI y7), some (vI (Int.tmod (y1 * (gi h 3 y7)) y3))]) (by decide) rfl K.1 rfl dX2_shareOf_140 ?_
        replace K := K.2
        refine J_iinc (loc' := [some (vR (some 1)), some (vI y1), some (vI y2), some (vI y3), some (vI (y4 - (Int.tdiv (y1 * (gi h 3 y7)) y3))), some (vI (y5 + 1)), some (vI y6), some (vI (y7 + 1)), some (vI (Int.tmod (y1 * (gi h 3 y7)) y3))]) (by decide) rfl K.1 rfl dX2_shareOf_143 ?_
        replace K := K.2
        refine J_goto (tgt := 68) dX2_shareOf_146 (by decide) ?_
        exact J_forget (loc' := [some (vR (some 1)), some (vI y1), some (vI y2), some (vI y3), some (vI (y4 - (Int.tdiv (y1 * (gi h 3 y7)) y3))), some (vI (y5 + 1)), some (vI y6), some (vI (y7 + 1)), none]) (And.intro (Or.inr rfl) (And.intro (Or.inr rfl) (And.intro (Or.inr rfl) (And.intro (Or.inr rfl) (And.intro (Or.inr rfl) (And.intro (Or.inr rfl) (And.intro (Or.inr rfl) (And.intro (Or.inr rfl) (And.intro (Or.inl rfl) True.intro))))))))) K
      · replace K := K.2 c
        refine J_iload rfl dX2_shareOf_127 ?_
        refine J_iload rfl dX2_shareOf_129 ?_
        refine J_icmp_ne (tgt := 143) dX2_shareOf_131 (by decide) (fun c => ?_) (fun c => ?_)
        · replace K := K.2 c
          refine J_iinc (loc' := [some (vR (some 1)), some (vI y1), some (vI y2), some (vI y3), some (vI (y4 - (Int.tdiv (y1 * (gi h 3 y7)) y3))), some (vI y5), some (vI y6), some (vI (y7 + 1)), some (vI (Int.tmod (y1 * (gi h 3 y7)) y3))]) (by decide) rfl K.1 rfl dX2_shareOf_143 ?_
          replace K := K.2
          refine J_goto (tgt := 68) dX2_shareOf_146 (by decide) ?_
          exact J_forget (loc' := [some (vR (some 1)), some (vI y1), some (vI y2), some (vI y3), some (vI (y4 - (Int.tdiv (y1 * (gi h 3 y7)) y3))), some (vI y5), some (vI y6), some (vI (y7 + 1)), none]) (And.intro (Or.inr rfl) (And.intro (Or.inr rfl) (And.intro (Or.inr rfl) (And.intro (Or.inr rfl) (And.intro (Or.inr rfl) (And.intro (Or.inr rfl) (And.intro (Or.inr rfl) (And.intro (Or.inr rfl) (And.intro (Or.inl rfl) True.intro))))))))) K
        · replace K := K.1 c
          refine J_iload rfl dX2_shareOf_134 ?_
          refine J_iload_n rfl dX2_shareOf_136 ?_
          refine J_icmp_ge (tgt := 143) dX2_shareOf_137 (by decide) (fun c => ?_) (fun c => ?_)
          · replace K := K.1 c
            refine J_iinc (loc' := [some (vR (some 1)), some (vI y1), some (vI y2), some (vI y3), some (vI (y4 - (Int.tdiv (y1 * (gi h 3 y7)) y3))), some (vI y5), some (vI y6), some (vI (y7 + 1)), some (vI (Int.tmod (y1 * (gi h 3 y7)) y3))]) (by decide) rfl K.1 rfl dX2_shareOf_143 ?_
            replace K := K.2
            refine J_goto (tgt := 68) dX2_shareOf_146 (by decide) ?_
            exact J_forget (loc' := [some (vR (some 1)), some (vI y1), some (vI y2), some (vI y3), some (vI (y4 - (Int.tdiv (y1 * (gi h 3 y7)) y3))), some (vI y5), some (vI y6), some (vI (y7 + 1)), none]) (And.intro (Or.inr rfl) (And.intro (Or.inr rfl) (And.intro (Or.inr rfl) (And.intro (Or.inr rfl) (And.intro (Or.inr rfl) (And.intro (Or.inr rfl) (And.intro (Or.inr rfl) (And.intro (Or.inr rfl) (And.intro (Or.inl rfl) True.intro))))))))) K
          · replace K := K.2 c
            refine J_iinc (loc' := [some (vR (some 1)), some (vI y1), some (vI y2), some (vI y3), some (vI (y4 - (Int.tdiv (y1 * (gi h 3 y7)) y3))), some (vI (y5 + 1)), some (vI y6), some (vI y7), some (vI (Int.tmod (y1 * (gi h 3 y7)) y3))]) (by decide) rfl K.1 rfl dX2_shareOf_140 ?_
            replace K := K.2
            refine J_iinc (loc' := [some (vR (some 1)), some (vI y1), some (vI y2), some (vI y3), some (vI (y4 - (Int.tdiv (y1 * (gi h 3 y7)) y3))), some (vI (y5 + 1)), some (vI y6), some (vI (y7 + 1)), some (vI (Int.tmod (y1 * (gi h 3 y7)) y3))]) (by decide) rfl K.1 rfl dX2_shareOf_143 ?_
            replace K := K.2
            refine J_goto (tgt := 68) dX2_shareOf_146 (by decide) ?_
            exact J_forget (loc' := [some (vR (some 1)), some (vI y1), some (vI y2), some (vI y3), some (vI (y4 - (Int.tdiv (y1 * (gi h 3 y7)) y3))), some (vI (y5 + 1)), some (vI y6), some (vI (y7 + 1)), none]) (And.intro (Or.inr rfl) (And.intro (Or.inr rfl) (And.intro (Or.inr rfl) (And.intro (Or.inr rfl) (And.intro (Or.inr rfl) (And.intro (Or.inr rfl) (And.intro (Or.inr rfl) (And.intro (Or.inr rfl) (And.intro (Or.inl rfl) True.intro))))))))) K
    · replace K := K.1 c
      refine J_goto (tgt := 143) dX2_shareOf_88 (by decide) ?_
      refine J_iinc (loc' := [some (vR (some 1)), some (vI y1), some (vI y2), some (vI y3), some (vI y4), some (vI y5), some (vI y6), some (vI (y7 + 1)), none]) (by decide) rfl K.1 rfl dX2_shareOf_143 ?_
      replace K := K.2
      refine J_goto (tgt := 68) dX2_shareOf_146 (by decide) ?_
      exact J_forget (loc' := [some (vR (some 1)), some (vI y1), some (vI y2), some (vI y3), some (vI y4), some (vI y5), some (vI y6), some (vI (y7 + 1)), none]) (And.intro (Or.inr rfl) (And.intro (Or.inr rfl) (And.intro (Or.inr rfl) (And.intro (Or.inr rfl) (And.intro (Or.inr rfl) (And.intro (Or.inr rfl) (And.intro (Or.inr rfl) (And.intro (Or.inr rfl) (And.intro (Or.inl rfl) True.intro))))))))) K
set_option maxRecDepth 20000 in
set_option maxHeartbeats 2000000 in
theorem w_X2_shareOf {d b : Nat} {Q : Option AV → AH → Prop} {h : AH} {x2 : Int} {x3 : Int}  (K : R32 x2 → R32 x3 → Lp_X2_shareOf_5 d b Q x2 x3 0 0 h) : WM GX d b mX2_shareOf [vR (some 1), vI x2, vI x3] h Q := by
  refine WM_introE (loc' := [some (vR (some 1)), some (vI x2), some (vI x3), none, none, none, none, none, none]) rfl (by decide) (Nat.le_of_ble_eq_true rfl) ?_
  refine J_rgl (i := 1) rfl (fun r1 => ?_)
  replace K := K r1
  refine J_rgl (i := 2) rfl (fun r2 => ?_)
  replace K := K r2
  refine J_iconst (by decide) dX2_shareOf_0 ?_
  refine J_istore_n (loc' := [some (vR (some 1)), some (vI x2), some (vI x3), some (vI 0), none, none, none, none, none]) (by decide) rfl dX2_shareOf_1 ?_
  refine J_iconst (by decide) dX2_shareOf_2 ?_
  refine J_istore (loc' := [some (vR (some 1)), some (vI x2), some (vI x3), some (vI 0), some (vI 0), none, none, none, none]) (by decide) rfl dX2_shareOf_3 ?_
  exact J_forget (loc' := [some (vR (some 1)), some (vI x2), some (vI x3), some (vI 0), some (vI 0), none, none, none, none]) (And.intro (Or.inr rfl) (And.intro (Or.inr rfl) (And.intro (Or.inr rfl) (And.intro (Or.inr rfl) (And.intro (Or.inr rfl) (And.intro (Or.inl rfl) (And.intro (Or.inl rfl) (And.intro (Or.inl rfl) (And.intro (Or.inl rfl) True.intro))))))))) K
set_option maxRecDepth 20000 in
set_option maxHeartbeats 2000000 in
theorem w_X7_share {d b : Nat} {Q : Option AV → AH → Prop} {h : AH} {x1 : Int} {x2 : Int}  (K : R32 x1 → R32 x2 → (x1 < 0 → Q (some (vI (-1))) h) ∧ (¬(x1 < 0) → (99999 < x1 → Q (some (vI (-1))) h) ∧ (¬(99999 < x1) → ((0 : Int) ≤ x2 ∧ x2 < gi h 1 2 → (0 ≤ x2 ∧ x2 < 8) ∧ (gi h 8 x2 = (-1) → Q (some (vI (-1))) h) ∧ (¬(gi h 8 x2 = (-1)) → WM GX d 0 mX2_shareOf [vR (some 1), vI x1, vI x2] h (fun r h1 => ∃ u1, r = some (vI u1) ∧ Q (some (vI u1)) h1))) ∧ (¬((0 : Int) ≤ x2 ∧ x2 < gi h 1 2) → Q (some (vI (-1))) h)))) : WM GX (d + 1) b mX7_share [vR (some 0), vI x1, vI x2] h Q := by
  refine WM_introE (loc' := [some (vR (some 0)), some (vI x1), some (vI x2)]) rfl (by decide) (Nat.le_of_ble_eq_true rfl) ?_
  refine J_rgl (i := 1) rfl (fun r1 => ?_)
  replace K := K r1
  refine J_rgl (i := 2) rfl (fun r2 => ?_)
  replace K := K r2
  refine J_iload_n rfl dX7_share_0 ?_
  refine J_if_lt (tgt := 35) dX7_share_1 (by decide) (fun c => ?_) (fun c => ?_)
  · replace K := K.1 c
    refine J_iconst (by decide) dX7_share_35 ?_
    exact J_ireturn rfl dX7_share_36 K
  · replace K := K.2 c
    refine J_iload_n rfl dX7_share_4 ?_
    refine J_ldcw (n := 99999) (by decide) (by decide) kc_RX7_283 dX7_share_5 ?_
    refine J_icmp_gt (tgt := 35) dX7_share_8 (by decide) (fun c => ?_) (fun c => ?_)
    · replace K := K.1 c
      refine J_iconst (by decide) dX7_share_35 ?_
      exact J_ireturn rfl dX7_share_36 K
    · replace K := K.2 c
      refine J_aload_n rfl dX7_share_11 ?_
      refine J_getS (r := 1) fl_RX7_10 rfl (Or.inl rfl) rfl dX7_share_12 ?_
      refine J_iload_n rfl dX7_share_15 ?_
      refine J_b0 (J_callV (b1 := 0) (ci := 0) (vs := [vI x2]) (rest := []) (Or.inr rfl) ml_RX7_138 rfl (by decide) rfl rfl (Or.inl rfl) (Nat.le_of_ble_eq_true rfl) rfl dX7_share_16 (c_X0_isDoor (by decide)  ?_))
      show J _ _ _ _ _ _ _ [vI (b2i ((0 : Int) ≤ x2 ∧ x2 < gi h 1 2))] _
      refine J_if_eq (tgt := 35) dX7_share_19 (by decide) (fun c => ?_) (fun c => ?_)
      · replace K := K.2 (b2i_0.mp c)
        refine J_iconst (by decide) dX7_share_35 ?_
        exact J_ireturn rfl dX7_share_36 K
      · replace K := K.1 (b2i_n0.mp c)
        refine J_aload_n rfl dX7_share_22 ?_
        refine J_getS (r := 1) fl_RX7_10 rfl (Or.inl rfl) rfl dX7_share_23 ?_
        refine J_getS (r := 8) fl_RX7_129 rfl (Or.inl rfl) rfl dX7_share_26 ?_
        refine J_iload_n rfl dX7_share_29 ?_
        refine J_iaload (Or.inl rfl) K.1 dX7_share_30 ?_
        replace K := K.2
        refine J_iconst (by decide) dX7_share_31 ?_
        refine J_icmp_ne (tgt := 37) dX7_share_32 (by decide) (fun c => ?_) (fun c => ?_)
        · replace K := K.2 c
          refine J_aload_n rfl dX7_share_37 ?_
          refine J_getS (r := 1) fl_RX7_10 rfl (Or.inl rfl) rfl dX7_share_38 ?_
          refine J_iload_n rfl dX7_share_41 ?_
          refine J_iload_n rfl dX7_share_42 ?_
          refine J_b0 (J_callS (b1 := 0) (vs := [vR (some 1), vI x1, vI x2]) (rest := []) (Or.inr rfl) ml_RX7_284 rfl (by decide) (Nat.le_of_ble_eq_true rfl) rfl dX7_share_43 (WM_mono K (fun r h1 K => ?_)))
          obtain ⟨u1, rfl, K⟩ := K
          show J _ _ _ _ _ _ _ [vI u1] _
          exact J_ireturn rfl dX7_share_46 K
        · replace K := K.1 c
          refine J_iconst (by decide) dX7_share_35 ?_
          exact J_ireturn rfl dX7_share_36 K
def Lp_X8_share_40 (d b : Nat) (Q : Option AV → AH → Prop)  (y1 : Int) (y2 : Int) (y3 : Int) (y4 : Int) (h : AH) : Prop := J GM (d + 2) b mX8_share Q 40 [some (vR (some 0)), some (vI y1), some (vI y2), some (vI y3), some (vI y4), none, none] [] h
def Lp_X8_share_89 (d b : Nat) (Q : Option AV → AH → Prop)  (y1 : Int) (y2 : Int) (y3 : Int) (y4 : Int) (y5 : Int) (h : AH) : Prop := J GM (d + 2) b mX8_share Q 89 [some (vR (some 0)), some (vI y1), some (vI y2), some (vI y3), some (vI y4), some (vI y5), none] [] h
def Lp_X8_share_169 (d b : Nat) (Q : Option AV → AH → Prop)  (y2 : Int) (y4 : Int) (h : AH) : Prop := J GM (d + 2) b mX8_share Q 169 [some (vR (some 0)), none, some (vI y2), none, some (vI y4), none, none] [] h
def Lp_X8_share_180 (d b : Nat) (Q : Option AV → AH → Prop)  (y2 : Int) (y4 : Int) (y5 : Int) (y6 : Int) (h : AH) : Prop := J GM (d + 2) b mX8_share Q 180 [some (vR (some 0)), none, some (vI y2), none, some (vI y4), some (vI y5), some (vI y6)] [] h
set_option maxRecDepth 20000 in
set_option maxHeartbeats 2000000 in
theorem l_X8_share_40 {d b : Nat} {Q : Option AV → AH → Prop} {h : AH}  {y1 : Int} {y2 : Int} {y3 : Int} {y4 : Int}  (K : (gi h 2 1 ≤ y4 → Lp_X8_share_89 d b Q y1 y2 y3 y1 0 h) ∧ (¬(gi h 2 1 ≤ y4) → ((0 : Int) ≤ y4 ∧ (y4 : Int) < 8) ∧ (gi h 2 (15 + y4) ≠ -1 → R32 (72 + y4) ∧ (0 ≤ 72 + y4 ∧ 72 + y4 < 5540) ∧ R32 (y3 + (gi h 2 (72 + y4))) ∧ R32 (y4 + 1) ∧ Lp_X8_share_40 d b Q y1 y2 (y3 + (gi h 2 (72 + y4))) (y4 + 1) h) ∧ (¬(gi h 2 (15 + y4) ≠ -1) → R32 (y3 + 0) ∧ R32 (y4 + 1) ∧ Lp_X8_share_40 d b Q y1 y2 (y3 + 0) (y4 + 1) h))) : Lp_X8_share_40 d b Q y1 y2 y3 y4 h := by
  unfold Lp_X8_share_40
  refine J_iload rfl dX8_share_40 ?_
  refine J_aload_n rfl dX8_share_42 ?_
  refine J_getS (r := 2) fl_RX8_13 rfl (Or.inl rfl) rfl dX8_share_43 ?_
  refine J_iconst (by decide) dX8_share_46 ?_
  refine J_iaload (Or.inl rfl) (by decide) dX8_share_47 ?_
  refine J_icmp_ge (tgt := 83) dX8_share_48 (by decide) (fun c => ?_) (fun c => ?_)
  · replace K := K.1 c
    refine J_iload_n rfl dX8_share_83 ?_
    refine J_istore (loc' := [some (vR (some 0)), some (vI y1), some (vI y2), some (vI y3), some (vI y1), none, none]) (by decide) rfl dX8_share_84 ?_
    refine J_iconst (by decide) dX8_share_86 ?_
    refine J_istore (loc' := [some (vR (some 0)), some (vI y1), some (vI y2), some (vI y3), some (vI y1), some (vI 0), none]) (by decide) rfl dX8_share_87 ?_
    exact J_forget (loc' := [some (vR (some 0)), some (vI y1), some (vI y2), some (vI y3), some (vI y1), some (vI 0), none]) (And.intro (Or.inr rfl) (And.intro (Or.inr rfl) (And.intro (Or.inr rfl) (And.intro (Or.inr rfl) (And.intro (Or.inr rfl) (And.intro (Or.inr rfl) (And.intro (Or.inl rfl) True.intro))))))) K
  · replace K := K.2 c
    refine J_iload_n rfl dX8_share_51 ?_
    refine J_aload_n rfl dX8_share_52 ?_
    refine J_iload rfl dX8_share_53 ?_
    refine J_b0 (J_callV (b1 := 0) (ci := 8) (vs := [vI y4]) (rest := [vI y3]) (Or.inl rfl) ml_RX8_441 rfl (by decide) rfl rfl (Or.inl rfl) (Nat.le_of_ble_eq_true rfl) rfl dX8_share_55 (c_X8_isAtSea  K.1 ?_))
    replace K := K.2
    show J _ _ _ _ _ _ _ [vI (b2i (gi h 2 (15 + y4) ≠ -1)), vI y3] _
    refine J_if_eq (tgt := 74) dX8_share_58 (by decide) (fun c => ?_) (fun c => ?_)
    · replace K := K.2 (b2i_0.mp c)
      refine J_iconst (by decide) dX8_share_74 ?_
      refine J_iadd K.1 dX8_share_75 ?_
      replace K := K.2
      refine J_istore_n (loc' := [some (vR (some 0)), some (vI y1), some (vI y2), some (vI (y3 + 0)), some (vI y4), none, none]) (by decide) rfl dX8_share_76 ?_
      refine J_iinc (loc' := [some (vR (some 0)), some (vI y1), some (vI y2), some (vI (y3 + 0)), some (vI (y4 + 1)), none, none]) (by decide) rfl K.1 rfl dX8_share_77 ?_
      replace K := K.2
      refine J_goto (tgt := 40) dX8_share_80 (by decide) ?_
      exact J_forget (loc' := [some (vR (some 0)), some (vI y1), some (vI y2), some (vI (y3 + 0)), some (vI (y4 + 1)), none, none]) (And.intro (Or.inr rfl) (And.intro (Or.inr rfl) (And.intro (Or.inr rfl) (And.intro (Or.inr rfl) (And.intro (Or.inr rfl) (And.intro (Or.inl rfl) (And.intro (Or.inl rfl) True.intro))))))) K
    · replace K := K.1 (b2i_n0.mp c)
      refine J_aload_n rfl dX8_share_61 ?_
      refine J_getS (r := 2) fl_RX8_13 rfl (Or.inl rfl) rfl dX8_share_62 ?_
      refine J_bipush (by decide) (by decide) dX8_share_65 ?_
      refine J_iload rfl dX8_share_67 ?_
      refine J_iadd K.1 dX8_share_69 ?_
      replace K := K.2
      refine J_iaload (Or.inl rfl) K.1 dX8_share_70 ?_
      replace K := K.2
      refine J_goto (tgt := 75) dX8_share_71 (by decide) ?_
      refine J_iadd K.1 dX8_share_75 ?_
      replace K := K.2
      refine J_istore_n (loc' := [some (vR (some 0)), some (vI y1), some (vI y2), some (vI (y3 + (gi h 2 (72 + y4)))), some (vI y4), none, none]) (by decide) rfl dX8_share_76 ?_
      refine J_iinc (loc' := [some (vR (some 0)), some (vI y1), some (vI y2), some (vI (y3 + (gi h 2 (72 + y4)))), some (vI (y4 + 1)), none, none]) (by decide) rfl K.1 rfl dX8_share_77 ?_
      replace K := K.2
      refine J_goto (tgt := 40) dX8_share_80 (by decide) ?_
      exact J_forget (loc' := [some (vR (some 0)), some (vI y1), some (vI y2), some (vI (y3 + (gi h 2 (72 + y4)))), some (vI (y4 + 1)), none, none]) (And.intro (Or.inr rfl) (And.intro (Or.inr rfl) (And.intro (Or.inr rfl) (And.intro (Or.inr rfl) (And.intro (Or.inr rfl) (And.intro (Or.inl rfl) (And.intro (Or.inl rfl) True.intro))))))) K
set_option maxRecDepth 20000 in
set_option maxHeartbeats 2000000 in
theorem l_X8_share_89 {d b : Nat} {Q : Option AV → AH → Prop} {h : AH}  {y1 : Int} {y2 : Int} {y3 : Int} {y4 : Int} {y5 : Int}  (K : (gi h 2 1 ≤ y5 → Lp_X8_share_169 d b Q y2 y4 h) ∧ (¬(gi h 2 1 ≤ y5) → ((0 : Int) ≤ y5 ∧ (y5 : Int) < 8) ∧ (gi h 2 (15 + y5) ≠ -1 → R32 (72 + y5) ∧ (0 ≤ 72 + y5 ∧ 72 + y5 < 5540) ∧ R32 (y1 * (gi h 2 (72 + y5))) ∧ y3 ≠ 0 ∧ R32 (Int.tdiv (y1 * (gi h 2 (72 + y5))) y3) ∧ (0 ≤ y5 ∧ y5 < 8) ∧ ∀ h3, h3 = si h 26 y5 (Int.tdiv (y1 * (gi h 2 (72 + y5))) y3) → R32 (y1 * (gi h 2 (72 + y5))) ∧ y3 ≠ 0 ∧ R32 (Int.tmod (y1 * (gi h 2 (72 + y5))) y3) ∧ (0 ≤ y5 ∧ y5 < 8) ∧ ∀ h4, h4 = si h3 27 y5 (Int.tmod (y1 * (gi h 2 (72 + y5))) y3) → (0 ≤ y5 ∧ y5 < 8) ∧ R32 (y4 - (Int.tdiv (y1 * (gi h 2 (72 + y5))) y3)) ∧ R32 (y5 + 1) ∧ Lp_X8_share_89 d b Q y1 y2 y3 (y4 - (Int.tdiv (y1 * (gi h 2 (72 + y5))) y3)) (y5 + 1) h4) ∧ (¬(gi h 2 (15 + y5) ≠ -1) → R32 (y1 * 0) ∧ y3 ≠ 0 ∧ R32 (Int.tdiv (y1 * 0) y3) ∧ (0 ≤ y5 ∧ y5 < 8) ∧ ∀ h1, h1 = si h 26 y5 (Int.tdiv (y1 * 0) y3) → R32 (y1 * 0) ∧ y3 ≠ 0 ∧ R32 (Int.tmod (y1 * 0) y3) ∧ (0 ≤ y5 ∧ y5 < 8) ∧ ∀ h2, h2 = si h1 27 y5 (Int.tmod (y1 * 0) y3) → (0 ≤ y5 ∧ y5 < 8) ∧ R32 (y4 - (Int.tdiv (y1 * 0) y3)) ∧ R32 (y5 + 1) ∧ Lp_X8_share_89 d b Q y1 y2 y3 (y4 - (Int.tdiv (y1 * 0) y3)) (y5 + 1) h2))) : Lp_X8_share_89 d b Q y1 y2 y3 y4 y5 h := by
  unfold Lp_X8_share_89
  refine J_iload rfl dX8_share_89 ?_
  refine J_aload_n rfl dX8_share_91 ?_
  refine J_getS (r := 2) fl_RX8_13 rfl (Or.inl rfl) rfl dX8_share_92 ?_
  refine J_iconst (by decide) dX8_share_95 ?_
  refine J_iaload (Or.inl rfl) (by decide) dX8_share_96 ?_
  refine J_icmp_ge (tgt := 169) dX8_share_97 (by decide) (fun c => ?_) (fun c => ?_)
  · replace K := K.1 c
    exact J_forget (loc' := [some (vR (some 0)), none, some (vI y2), none, some (vI y4), none, none]) (And.intro (Or.inr rfl) (And.intro (Or.inl rfl) (And.intro (Or.inr rfl) (And.intro (Or.inl rfl) (And.intro (Or.inr rfl) (And.intro (Or.inl rfl) (And.intro (Or.inl rfl) True.intro))))))) K
  · replace K := K.2 c
    refine J_aload_n rfl dX8_share_100 ?_
    refine J_iload rfl dX8_share_101 ?_
    refine J_b0 (J_callV (b1 := 0) (ci := 8) (vs := [vI y5]) (rest := []) (Or.inl rfl) ml_RX8_441 rfl (by decide) rfl rfl (Or.inl rfl) (Nat.le_of_ble_eq_true rfl) rfl dX8_share_103 (c_X8_isAtSea  K.1 ?_))
    replace K := K.2
    show J _ _ _ _ _ _ _ [vI (b2i (gi h 2 (15 + y5) ≠ -1))] _
    refine J_if_eq (tgt := 122) dX8_share_106 (by decide) (fun c => ?_) (fun c => ?_)
    · replace K := K.2 (b2i_0.mp c)
      refine J_iconst (by decide) dX8_share_122 ?_
      refine J_istore (loc' := [some (vR (some 0)), some (vI y1), some (vI y2), some (vI y3), some (vI y4), some (vI y5), some (vI 0)]) (by decide) rfl dX8_share_123 ?_
      refine J_aload_n rfl dX8_share_125 ?_
      refine J_getS (r := 26) fl_RX8_129 rfl (Or.inl rfl) rfl dX8_share_126 ?_
      refine J_iload rfl dX8_share_129 ?_
      refine J_iload_n rfl dX8_share_131 ?_
      refine J_iload rfl dX8_share_132 ?_
      refine J_imul K.1 dX8_share_134 ?_
      replace K := K.2
      refine J_iload_n rfl dX8_share_135 ?_
      refine J_idiv K.1 K.2.1 dX8_share_136 ?_
      replace K := K.2.2
      refine J_iastore (Or.inl rfl) K.1 dX8_share_137 ?_
      replace K := K.2
      replace K := K _ rfl
      refine J_aload_n rfl dX8_share_138 ?_
      refine J_getS (r := 27) fl_RX8_132 rfl (Or.inl rfl) rfl dX8_share_139 ?_
      refine J_iload rfl dX8_share_142 ?_
      refine J_iload_n rfl dX8_share_144 ?_
      refine J_iload rfl dX8_share_145 ?_
      refine J_imul K.1 dX8_share_147 ?_
      replace K := K.2
      refine J_iload_n rfl dX8_share_148 ?_
      refine J_irem K.1 K.2.1 dX8_share_149 ?_
      replace K := K.2.2
      refine J_iastore (Or.inl rfl) K.1 dX8_share_150 ?_
      replace K := K.2
      replace K := K _ rfl
      refine J_iload rfl dX8_share_151 ?_
      refine J_aload_n rfl dX8_share_153 ?_
      refine J_getS (r := 26) fl_RX8_129 rfl (Or.inl rfl) rfl dX8_share_154 ?_
      refine J_iload rfl dX8_share_157 ?_
      refine J_ialoade (Or.inl rfl) K.1 (Eq.trans (gi_no (by decide)) gi_eq) dX8_share_159 ?_
      replace K := K.2
      refine J_isub K.1 dX8_share_160 ?_
      replace K := K.2
      refine J_istore (loc' := [some (vR (some 0)), some (vI y1), some (vI y2), some (vI y3), some (vI (y4 - (Int.tdiv (y1 * 0) y3))), some (vI y5), some (vI 0)]) (by decide) rfl dX8_share_161 ?_
      refine J_iinc (loc' := [some (vR (some 0)), some (vI y1), some (vI y2), some (vI y3), some (vI (y4 - (Int.tdiv (y1 * 0) y3))), some (vI (y5 + 1)), some (vI 0)]) (by decide) rfl K.1 rfl dX8_share_163 ?_
      replace K := K.2
      refine J_goto (tgt := 89) dX8_share_166 (by decide) ?_
      exact J_forget (loc' := [some (vR (some 0)), some (vI y1), some (vI y2), some (vI y3), some (vI (y4 - (Int.tdiv (y1 * 0) y3))), some (vI (y5 + 1)), none]) (And.intro (Or.inr rfl) (And.intro (Or.inr rfl) (And.intro (Or.inr rfl) (And.intro (Or.inr rfl) (And.intro (Or.inr rfl) (And.intro (Or.inr rfl) (And.intro (Or.inl rfl) True.intro))))))) K
    · replace K := K.1 (b2i_n0.mp c)
      refine J_aload_n rfl dX8_share_109 ?_
      refine J_getS (r := 2) fl_RX8_13 rfl (Or.inl rfl) rfl dX8_share_110 ?_
      refine J_bipush (by decide) (by decide) dX8_share_113 ?_
      refine J_iload rfl dX8_share_115 ?_
      refine J_iadd K.1 dX8_share_117 ?_
      replace K := K.2
      refine J_iaload (Or.inl rfl) K.1 dX8_share_118 ?_
      replace K := K.2
      refine J_goto (tgt := 123) dX8_share_119 (by decide) ?_
      refine J_istore (loc' := [some (vR (some 0)), some (vI y1), some (vI y2), some (vI y3), some (vI y4), some (vI y5), some (vI (gi h 2 (72 + y5)))]) (by decide) rfl dX8_share_123 ?_
      refine J_aload_n rfl dX8_share_125 ?_
      refine J_getS (r := 26) fl_RX8_129 rfl (Or.inl rfl) rfl dX8_share_126 ?_
      refine J_iload rfl dX8_share_129 ?_
      refine J_iload_n rfl dX8_share_131 ?_
      refine J_iload rfl dX8_share_132 ?_
      refine J_imul K.1 dX8_share_134 ?_
      replace K := K.2
      refine J_iload_n rfl dX8_share_135 ?_
      refine J_idiv K.1 K.2.1 dX8_share_136 ?_
      replace K := K.2.2
      refine J_iastore (Or.inl rfl) K.1 dX8_share_137 ?_
      replace K := K.2
      replace K := K _ rfl
      refine J_aload_n rfl dX8_share_138 ?_
      refine J_getS (r := 27) fl_RX8_132 rfl (Or.inl rfl) rfl dX8_share_139 ?_
      refine J_iload rfl dX8_share_142 ?_
      refine J_iload_n rfl dX8_share_144 ?_
      refine J_iload rfl dX8_share_145 ?_
      refine J_imul K.1 dX8_share_147 ?_
      replace K := K.2
      refine J_iload_n rfl dX8_share_148 ?_
      refine J_irem K.1 K.2.1 dX8_share_149 ?_
      replace K := K.2.2
      refine J_iastore (Or.inl rfl) K.1 dX8_share_150 ?_
      replace K := K.2
      replace K := K _ rfl
      refine J_iload rfl dX8_share_151 ?_
      refine J_aload_n rfl dX8_share_153 ?_
      refine J_getS (r := 26) fl_RX8_129 rfl (Or.inl rfl) rfl dX8_share_154 ?_
      refine J_iload rfl dX8_share_157 ?_
      refine J_ialoade (Or.inl rfl) K.1 (Eq.trans (gi_no (by decide)) gi_eq) dX8_share_159 ?_
      replace K := K.2
      refine J_isub K.1 dX8_share_160 ?_
      replace K := K.2
      refine J_istore (loc' := [some (vR (some 0)), some (vI y1), some (vI y2), some (vI y3), some (vI (y4 - (Int.tdiv (y1 * (gi h 2 (72 + y5))) y3))), some (vI y5), some (vI (gi h 2 (72 + y5)))]) (by decide) rfl dX8_share_161 ?_
      refine J_iinc (loc' := [some (vR (some 0)), some (vI y1), some (vI y2), some (vI y3), some (vI (y4 - (Int.tdiv (y1 * (gi h 2 (72 + y5))) y3))), some (vI (y5 + 1)), some (vI (gi h 2 (72 + y5)))]) (by decide) rfl K.1 rfl dX8_share_163 ?_
      replace K := K.2
      refine J_goto (tgt := 89) dX8_share_166 (by decide) ?_
      exact J_forget (loc' := [some (vR (some 0)), some (vI y1), some (vI y2), some (vI y3), some (vI (y4 - (Int.tdiv (y1 * (gi h 2 (72 + y5))) y3))), some (vI (y5 + 1)), none]) (And.intro (Or.inr rfl) (And.intro (Or.inr rfl) (And.intro (Or.inr rfl) (And.intro (Or.inr rfl) (And.intro (Or.inr rfl) (And.intro (Or.inr rfl) (And.intro (Or.inl rfl) True.intro))))))) K
set_option maxRecDepth 20000 in
set_option maxHeartbeats 2000000 in
theorem l_X8_share_169 {d b : Nat} {Q : Option AV → AH → Prop} {h : AH}  {y2 : Int} {y4 : Int}  (K : (y4 ≤ 0 → (0 ≤ y2 ∧ y2 < 8) ∧ Q (some (vI (gi h 26 y2))) h) ∧ (¬(y4 ≤ 0) → Lp_X8_share_180 d b Q y2 y4 0 1 h)) : Lp_X8_share_169 d b Q y2 y4 h := by
  unfold Lp_X8_share_169
  refine J_iload rfl dX8_share_169 ?_
  refine J_if_le (tgt := 248) dX8_share_171 (by decide) (fun c => ?_) (fun c => ?_)
  · replace K := K.1 c
    refine J_aload_n rfl dX8_share_248 ?_
    refine J_getS (r := 26) fl_RX8_129 rfl (Or.inl rfl) rfl dX8_share_249 ?_
    refine J_iload_n rfl dX8_share_252 ?_
    refine J_iaload (Or.inl rfl) K.1 dX8_share_253 ?_
    replace K := K.2
    exact J_ireturn rfl dX8_share_254 K
  · replace K := K.2 c
    refine J_iconst (by decide) dX8_share_174 ?_
    refine J_istore (loc' := [some (vR (some 0)), none, some (vI y2), none, some (vI y4), some (vI 0), none]) (by decide) rfl dX8_share_175 ?_
    refine J_iconst (by decide) dX8_share_177 ?_
    refine J_istore (loc' := [some (vR (some 0)), none, some (vI y2), none, some (vI y4), some (vI 0), some (vI 1)]) (by decide) rfl dX8_share_178 ?_
    exact J_forget (loc' := [some (vR (some 0)), none, some (vI y2), none, some (vI y4), some (vI 0), some (vI 1)]) (And.intro (Or.inr rfl) (And.intro (Or.inl rfl) (And.intro (Or.inr rfl) (And.intro (Or.inl rfl) (And.intro (Or.inr rfl) (And.intro (Or.inr rfl) (And.intro (Or.inr rfl) True.intro))))))) K
set_option maxRecDepth 20000 in
set_option maxHeartbeats 2000000 in
theorem l_X8_share_180 {d b : Nat} {Q : Option AV → AH → Prop} {h : AH}  {y2 : Int} {y4 : Int} {y5 : Int} {y6 : Int}  (K : (gi h 2 1 ≤ y6 → (0 ≤ y5 ∧ y5 < 8) ∧ R32 ((gi h 26 y5) + 1) ∧ (0 ≤ y5 ∧ y5 < 8) ∧ ∀ h1, h1 = si h 26 y5 ((gi h 26 y5) + 1) → (0 ≤ y5 ∧ y5 < 8) ∧ ∀ h2, h2 = si h1 27 y5 (-1) → R32 (y4 + (-1)) ∧ Lp_X8_share_169 d b Q y2 (y4 + (-1)) h2) ∧ (¬(gi h 2 1 ≤ y6) → (0 ≤ y6 ∧ y6 < 8) ∧ (0 ≤ y5 ∧ y5 < 8) ∧ (gi h 27 y6 ≤ gi h 27 y5 → R32 (y6 + 1) ∧ Lp_X8_share_180 d b Q y2 y4 y5 (y6 + 1) h) ∧ (¬(gi h 27 y6 ≤ gi h 27 y5) → R32 (y6 + 1) ∧ Lp_X8_share_180 d b Q y2 y4 y6 (y6 + 1) h))) : Lp_X8_share_180 d b Q y2 y4 y5 y6 h := by
  unfold Lp_X8_share_180
  refine J_iload rfl dX8_share_180 ?_
  refine J_aload_n rfl dX8_share_182 ?_
  refine J_getS (r := 2) fl_RX8_13 rfl (Or.inl rfl) rfl dX8_share_183 ?_
  refine J_iconst (by decide) dX8_share_186 ?_
  refine J_iaload (Or.inl rfl) (by decide) dX8_share_187 ?_
  refine J_icmp_ge (tgt := 223) dX8_share_188 (by decide) (fun c => ?_) (fun c => ?_)
  · replace K := K.1 c
    refine J_aload_n rfl dX8_share_223 ?_
    refine J_getS (r := 26) fl_RX8_129 rfl (Or.inl rfl) rfl dX8_share_224 ?_
    refine J_iload rfl dX8_share_227 ?_
    refine J_dup2 rfl rfl dX8_share_229 ?_
    refine J_iaload (Or.inl rfl) K.1 dX8_share_230 ?_
    replace K := K.2
    refine J_iconst (by decide) dX8_share_231 ?_
    refine J_iadd K.1 dX8_share_232 ?_
    replace K := K.2
    refine J_iastore (Or.inl rfl) K.1 dX8_share_233 ?_
    replace K := K.2
    replace K := K _ rfl
    refine J_aload_n rfl dX8_share_234 ?_
    refine J_getS (r := 27) fl_RX8_132 rfl (Or.inl rfl) rfl dX8_share_235 ?_
    refine J_iload rfl dX8_share_238 ?_
    refine J_iconst (by decide) dX8_share_240 ?_
    refine J_iastore (Or.inl rfl) K.1 dX8_share_241 ?_
    replace K := K.2
    replace K := K _ rfl
    refine J_iinc (loc' := [some (vR (some 0)), none, some (vI y2), none, some (vI (y4 + (-1))), some (vI y5), some (vI y6)]) (by decide) rfl K.1 rfl dX8_share_242 ?_
    replace K := K.2
    refine J_goto (tgt := 169) dX8_share_245 (by decide) ?_
    exact J_forget (loc' := [some (vR (some 0)), none, some (vI y2), none, some (vI (y4 + (-1))), none, none]) (And.intro (Or.inr rfl) (And.intro (Or.inl rfl) (And.intro (Or.inr rfl) (And.intro (Or.inl rfl) (And.intro (Or.inr rfl) (And.intro (Or.inl rfl) (And.intro (Or.inl rfl) True.intro))))))) K
  · replace K := K.2 c
    refine J_aload_n rfl dX8_share_191 ?_
    refine J_getS (r := 27) fl_RX8_132 rfl (Or.inl rfl) rfl dX8_share_192 ?_
    refine J_iload rfl dX8_share_195 ?_
    refine J_iaload (Or.inl rfl) K.1 dX8_share_197 ?_
    replace K := K.2
    refine J_aload_n rfl dX8_share_198 ?_
    refine J_getS (r := 27) fl_RX8_132 rfl (Or.inl rfl) rfl dX8_share_199 ?_
    refine J_iload rfl dX8_share_202 ?_
    refine J_iaload (Or.inl rfl) K.1 dX8_share_204 ?_
    replace K := K.2
    refine J_icmp_le (tgt := 213) dX8_share_205 (by decide) (fun c => ?_) (fun c => ?_)
    · replace K := K.1 c
      refine J_iload rfl dX8_share_213 ?_
      refine J_istore (loc' := [some (vR (some 0)), none, some (vI y2), none, some (vI y4), some (vI y5), some (vI y6)]) (by decide) rfl dX8_share_215 ?_
      refine J_iinc (loc' := [some (vR (some 0)), none, some (vI y2), none, some (vI y4), some (vI y5), some (vI (y6 + 1))]) (by decide) rfl K.1 rfl dX8_share_217 ?_
      replace K := K.2
      refine J_goto (tgt := 180) dX8_share_220 (by decide) ?_
      exact J_forget (loc' := [some (vR (some 0)), none, some (vI y2), none, some (vI y4), some (vI y5), some (vI (y6 + 1))]) (And.intro (Or.inr rfl) (And.intro (Or.inl rfl) (And.intro (Or.inr rfl) (And.intro (Or.inl rfl) (And.intro (Or.inr rfl) (And.intro (Or.inr rfl) (And.intro (Or.inr rfl) True.intro))))))) K
    · replace K := K.2 c
      refine J_iload rfl dX8_share_208 ?_
      refine J_goto (tgt := 215) dX8_share_210 (by decide) ?_
      refine J_istore (loc' := [some (vR (some 0)), none, some (vI y2), none, some (vI y4), some (vI y6), some (vI y6)]) (by decide) rfl dX8_share_215 ?_
      refine J_iinc (loc' := [some (vR (some 0)), none, some (vI y2), none, some (vI y4), some (vI y6), some (vI (y6 + 1))]) (by decide) rfl K.1 rfl dX8_share_217 ?_
      replace K := K.2
      refine J_goto (tgt := 180) dX8_share_220 (by decide) ?_
      exact J_forget (loc' := [some (vR (some 0)), none, some (vI y2), none, some (vI y4), some (vI y6), some (vI (y6 + 1))]) (And.intro (Or.inr rfl) (And.intro (Or.inl rfl) (And.intro (Or.inr rfl) (And.intro (Or.inl rfl) (And.intro (Or.inr rfl) (And.intro (Or.inr rfl) (And.intro (Or.inr rfl) True.intro))))))) K
set_option maxRecDepth 20000 in
set_option maxHeartbeats 2000000 in
theorem w_X8_share {d b : Nat} {Q : Option AV → AH → Prop} {h : AH} {x1 : Int} {x2 : Int}  (K : R32 x1 → R32 x2 → ∀ h1, h1 = si h 0 0 0 → (0 ≤ x1 ∧ x1 ≤ 99999 → (0 ≤ gi h1 2 1 ∧ gi h1 2 1 ≤ 8) ∧ ((0 : Int) ≤ x2 ∧ x2 < gi h1 2 1 → ((0 : Int) ≤ x2 ∧ (x2 : Int) < 8) ∧ (gi h1 2 (15 + x2) ≠ -1 → Lp_X8_share_40 d b Q x1 x2 0 0 h1) ∧ (¬(gi h1 2 (15 + x2) ≠ -1) → Q (some (vI (-1))) h1)) ∧ (¬((0 : Int) ≤ x2 ∧ x2 < gi h1 2 1) → Q (some (vI (-1))) h1)) ∧ (¬(0 ≤ x1 ∧ x1 ≤ 99999) → Q (some (vI (-1))) h1)) : WM GM (d + 2) b mX8_share [vR (some 0), vI x1, vI x2] h Q := by
  refine WM_introE (loc' := [some (vR (some 0)), some (vI x1), some (vI x2), none, none, none, none]) rfl (by decide) (Nat.le_of_ble_eq_true rfl) ?_
  refine J_rgl (i := 1) rfl (fun r1 => ?_)
  replace K := K r1
  refine J_rgl (i := 2) rfl (fun r2 => ?_)
  replace K := K r2
  refine J_aload_n rfl dX8_share_0 ?_
  refine J_iconst (by decide) dX8_share_1 ?_
  refine J_putI fl_RX8_161 rfl (Or.inl rfl) dX8_share_2 ?_
  replace K := K _ rfl
  refine J_iload_n rfl dX8_share_5 ?_
  refine J_i2l dX8_share_6 ?_
  refine J_lconst (x := 0) (by decide) (by decide) dX8_share_7 ?_
  refine J_ldc2 (n := 99999) (by decide) (by decide) kc_RX8_511 dX8_share_8 ?_
  refine J_b0 (J_callS (b1 := 0) (vs := [vL x1, vL 0, vL 99999]) (rest := []) (Or.inl rfl) ml_RX8_181 rfl (by decide) (Nat.le_of_ble_eq_true rfl) rfl dX8_share_11 (c_X8_in   ?_))
  show J _ _ _ _ _ _ _ [vI (b2i (0 ≤ x1 ∧ x1 ≤ 99999))] _
  refine J_if_eq (tgt := 33) dX8_share_14 (by decide) (fun c => ?_) (fun c => ?_)
  · replace K := K.2 (b2i_0.mp c)
    refine J_iconst (by decide) dX8_share_33 ?_
    exact J_ireturn rfl dX8_share_34 K
  · replace K := K.1 (b2i_n0.mp c)
    refine J_aload_n rfl dX8_share_17 ?_
    refine J_iload_n rfl dX8_share_18 ?_
    refine J_b0 (J_callV (b1 := 0) (ci := 8) (vs := [vI x2]) (rest := []) (Or.inl rfl) ml_RX8_203 rfl (by decide) rfl rfl (Or.inl rfl) (Nat.le_of_ble_eq_true rfl) rfl dX8_share_19 (c_X8_isDoor  K.1 ?_))
    replace K := K.2
    show J _ _ _ _ _ _ _ [vI _] _
    refine J_if_eq (tgt := 33) dX8_share_22 (by decide) (fun c => ?_) (fun c => ?_)
    · replace K := K.2 (b2i_0.mp c)
      refine J_iconst (by decide) dX8_share_33 ?_
      exact J_ireturn rfl dX8_share_34 K
    · replace K := K.1 (b2i_n0.mp c)
      refine J_aload_n rfl dX8_share_25 ?_
      refine J_iload_n rfl dX8_share_26 ?_
      refine J_b0 (J_callV (b1 := 0) (ci := 8) (vs := [vI x2]) (rest := []) (Or.inl rfl) ml_RX8_441 rfl (by decide) rfl rfl (Or.inl rfl) (Nat.le_of_ble_eq_true rfl) rfl dX8_share_27 (c_X8_isAtSea  K.1 ?_))
      replace K := K.2
      show J _ _ _ _ _ _ _ [vI _] _
      refine J_if_ne (tgt := 35) dX8_share_30 (by decide) (fun c => ?_) (fun c => ?_)
      · replace K := K.1 (b2i_n0.mp c)
        refine J_iconst (by decide) dX8_share_35 ?_
        refine J_istore_n (loc' := [some (vR (some 0)), some (vI x1), some (vI x2), some (vI 0), none, none, none]) (by decide) rfl dX8_share_36 ?_
        refine J_iconst (by decide) dX8_share_37 ?_
        refine J_istore (loc' := [some (vR (some 0)), some (vI x1), some (vI x2), some (vI 0), some (vI 0), none, none]) (by decide) rfl dX8_share_38 ?_
        exact J_forget (loc' := [some (vR (some 0)), some (vI x1), some (vI x2), some (vI 0), some (vI 0), none, none]) (And.intro (Or.inr rfl) (And.intro (Or.inr rfl) (And.intro (Or.inr rfl) (And.intro (Or.inr rfl) (And.intro (Or.inr rfl) (And.intro (Or.inl rfl) (And.intro (Or.inl rfl) True.intro))))))) K
      · replace K := K.2 (b2i_0.mp c)
        refine J_iconst (by decide) dX8_share_33 ?_
        exact J_ireturn rfl dX8_share_34 K
def Lp_X2_fewestSwaps_4 (d b : Nat) (Q : Option AV → AH → Prop)  (y2 : Int) (y3 : Int) (h : AH) : Prop := J GX d b mX2_fewestSwaps Q 4 [some (vR (some 43)), some (vR (some 1)), some (vI y2), some (vI y3), none, none, none, none] [] h
def Lp_X2_fewestSwaps_25 (d b : Nat) (Q : Option AV → AH → Prop)  (y2 : Int) (y3 : Int) (h : AH) : Prop := J GX d b mX2_fewestSwaps Q 25 [some (vR (some 43)), some (vR (some 1)), some (vI y2), some (vI y3), none, none, none, none] [] h
def Lp_X2_fewestSwaps_93 (d b : Nat) (Q : Option AV → AH → Prop)  (y3 : Int) (y4 : Int) (h : AH) : Prop := J GX d b mX2_fewestSwaps Q 93 [some (vR (some 43)), some (vR (some 1)), none, some (vI y3), some (vI y4), none, none, none] [] h
def Lp_X2_fewestSwaps_103 (d b : Nat) (Q : Option AV → AH → Prop)  (y3 : Int) (y4 : Int) (y5 : Int) (h : AH) : Prop := J GX d b mX2_fewestSwaps Q 103 [some (vR (some 43)), some (vR (some 1)), none, some (vI y3), some (vI y4), some (vI y5), none, none] [] h
set_option maxRecDepth 20000 in
set_option maxHeartbeats 2000000 in
theorem l_X2_fewestSwaps_4 {d b : Nat} {Q : Option AV → AH → Prop} {h : AH}  {y2 : Int} {y3 : Int}  (K : (8 ≤ y3 → Lp_X2_fewestSwaps_25 d b Q y2 0 h) ∧ (¬(8 ≤ y3) → (0 ≤ y3 ∧ y3 < 8) ∧ ∀ h1, h1 = si h 49 y3 (-1) → R32 (y3 + 1) ∧ Lp_X2_fewestSwaps_4 d b Q y2 (y3 + 1) h1)) : Lp_X2_fewestSwaps_4 d b Q y2 y3 h := by
  unfold Lp_X2_fewestSwaps_4
  refine J_iload_n rfl dX2_fewestSwaps_4 ?_
  refine J_bipush (by decide) (by decide) dX2_fewestSwaps_5 ?_
  refine J_icmp_ge (tgt := 23) dX2_fewestSwaps_7 (by decide) (fun c => ?_) (fun c => ?_)
  · replace K := K.1 c
    refine J_iconst (by decide) dX2_fewestSwaps_23 ?_
    refine J_istore_n (loc' := [some (vR (some 43)), some (vR (some 1)), some (vI y2), some (vI 0), none, none, none, none]) (by decide) rfl dX2_fewestSwaps_24 ?_
    exact J_forget (loc' := [some (vR (some 43)), some (vR (some 1)), some (vI y2), some (vI 0), none, none, none, none]) (And.intro (Or.inr rfl) (And.intro (Or.inr rfl) (And.intro (Or.inr rfl) (And.intro (Or.inr rfl) (And.intro (Or.inl rfl) (And.intro (Or.inl rfl) (And.intro (Or.inl rfl) (And.intro (Or.inl rfl) True.intro)))))))) K
  · replace K := K.2 c
    refine J_aload_n rfl dX2_fewestSwaps_10 ?_
    refine J_getS (r := 49) fl_RX2_27 rfl (Or.inl rfl) rfl dX2_fewestSwaps_11 ?_
    refine J_iload_n rfl dX2_fewestSwaps_14 ?_
    refine J_iconst (by decide) dX2_fewestSwaps_15 ?_
    refine J_iastore (Or.inl rfl) K.1 dX2_fewestSwaps_16 ?_
    replace K := K.2
    replace K := K _ rfl
    refine J_iinc (loc' := [some (vR (some 43)), some (vR (some 1)), some (vI y2), some (vI (y3 + 1)), none, none, none, none]) (by decide) rfl K.1 rfl dX2_fewestSwaps_17 ?_
    replace K := K.2
    refine J_goto (tgt := 4) dX2_fewestSwaps_20 (by decide) ?_
    exact J_forget (loc' := [some (vR (some 43)), some (vR (some 1)), some (vI y2), some (vI (y3 + 1)), none, none, none, none]) (And.intro (Or.inr rfl) (And.intro (Or.inr rfl) (And.intro (Or.inr rfl) (And.intro (Or.inr rfl) (And.intro (Or.inl rfl) (And.intro (Or.inl rfl) (And.intro (Or.inl rfl) (And.intro (Or.inl rfl) True.intro)))))))) K
set_option maxRecDepth 20000 in
set_option maxHeartbeats 2000000 in
theorem l_X2_fewestSwaps_25 {d b : Nat} {Q : Option AV → AH → Prop} {h : AH}  {y2 : Int} {y3 : Int}  (K : (gi h 1 2 ≤ y3 → Lp_X2_fewestSwaps_93 d b Q 0 0 h) ∧ (¬(gi h 1 2 ≤ y3) → (0 ≤ y3 ∧ y3 < 8) ∧ (gi h 7 y3 = (-1) → R32 (y3 + 1) ∧ Lp_X2_fewestSwaps_25 d b Q y2 (y3 + 1) h) ∧ (¬(gi h 7 y3 = (-1)) → (0 ≤ y3 ∧ y3 < 8) ∧ (zand y2 (zshl 1 (gi h 5 y3)) = 0 → (0 ≤ gi h 7 y3 ∧ gi h 7 y3 < 8) ∧ ∀ h1, h1 = si h 49 (gi h 7 y3) y3 → R32 (y3 + 1) ∧ Lp_X2_fewestSwaps_25 d b Q (zor y2 (zshl 1 (gi h 5 y3))) (y3 + 1) h1) ∧ (¬(zand y2 (zshl 1 (gi h 5 y3)) = 0) → Q (some (vI (-1))) h)))) : Lp_X2_fewestSwaps_25 d b Q y2 y3 h := by
  unfold Lp_X2_fewestSwaps_25
  refine J_iload_n rfl dX2_fewestSwaps_25 ?_
  refine J_aload_n rfl dX2_fewestSwaps_26 ?_
  refine J_getI fl_RX2_30 rfl (Or.inl rfl) dX2_fewestSwaps_27 ?_
  refine J_icmp_ge (tgt := 88) dX2_fewestSwaps_30 (by decide) (fun c => ?_) (fun c => ?_)
  · replace K := K.1 c
    refine J_iconst (by decide) dX2_fewestSwaps_88 ?_
    refine J_istore_n (loc' := [some (vR (some 43)), some (vR (some 1)), some (vI y2), some (vI 0), none, none, none, none]) (by decide) rfl dX2_fewestSwaps_89 ?_
    refine J_iconst (by decide) dX2_fewestSwaps_90 ?_
    refine J_istore (loc' := [some (vR (some 43)), some (vR (some 1)), some (vI y2), some (vI 0), some (vI 0), none, none, none]) (by decide) rfl dX2_fewestSwaps_91 ?_
    exact J_forget (loc' := [some (vR (some 43)), some (vR (some 1)), none, some (vI 0), some (vI 0), none, none, none]) (And.intro (Or.inr rfl) (And.intro (Or.inr rfl) (And.intro (Or.inl rfl) (And.intro (Or.inr rfl) (And.intro (Or.inr rfl) (And.intro (Or.inl rfl) (And.intro (Or.inl rfl) (And.intro (Or.inl rfl) True.intro)))))))) K
  · replace K := K.2 c
    refine J_aload_n rfl dX2_fewestSwaps_33 ?_
    refine J_getS (r := 7) fl_RX2_36 rfl (Or.inl rfl) rfl dX2_fewestSwaps_34 ?_
    refine J_iload_n rfl dX2_fewestSwaps_37 ?_
    refine J_iaload (Or.inl rfl) K.1 dX2_fewestSwaps_38 ?_
    replace K := K.2
    refine J_istore (loc' := [some (vR (some 43)), some (vR (some 1)), some (vI y2), some (vI y3), some (vI (gi h 7 y3)), none, none, none]) (by decide) rfl dX2_fewestSwaps_39 ?_
    refine J_iload rfl dX2_fewestSwaps_41 ?_
    refine J_iconst (by decide) dX2_fewestSwaps_43 ?_
    refine J_icmp_ne (tgt := 50) dX2_fewestSwaps_44 (by decide) (fun c => ?_) (fun c => ?_)
    · replace K := K.2 c
      refine J_iconst (by decide) dX2_fewestSwaps_50 ?_
      refine J_aload_n rfl dX2_fewestSwaps_51 ?_
      refine J_getS (r := 5) fl_RX2_66 rfl (Or.inl rfl) rfl dX2_fewestSwaps_52 ?_
      refine J_iload_n rfl dX2_fewestSwaps_55 ?_
      refine J_iaload (Or.inl rfl) K.1 dX2_fewestSwaps_56 ?_
      replace K := K.2
      refine J_ishl dX2_fewestSwaps_57 ?_
      refine J_istore (loc' := [some (vR (some 43)), some (vR (some 1)), some (vI y2), some (vI y3), some (vI (gi h 7 y3)), some (vI (zshl 1 (gi h 5 y3))), none, none]) (by decide) rfl dX2_fewestSwaps_58 ?_
      refine J_iload_n rfl dX2_fewestSwaps_60 ?_
      refine J_iload rfl dX2_fewestSwaps_61 ?_
      refine J_iand dX2_fewestSwaps_63 ?_
      refine J_if_eq (tgt := 69) dX2_fewestSwaps_64 (by decide) (fun c => ?_) (fun c => ?_)
      · replace K := K.1 c
        refine J_iload_n rfl dX2_fewestSwaps_69 ?_
        refine J_iload rfl dX2_fewestSwaps_70 ?_
        refine J_ior dX2_fewestSwaps_72 ?_
        refine J_istore_n (loc' := [some (vR (some 43)), some (vR (some 1)), some (vI (zor y2 (zshl 1 (gi h 5 y3)))), some (vI y3), some (vI (gi h 7 y3)), some (vI (zshl 1 (gi h 5 y3))), none, none]) (by decide) rfl dX2_fewestSwaps_73 ?_
        refine J_aload_n rfl dX2_fewestSwaps_74 ?_
        refine J_getS (r := 49) fl_RX2_27 rfl (Or.inl rfl) rfl dX2_fewestSwaps_75 ?_
        refine J_iload rfl dX2_fewestSwaps_78 ?_
        refine J_iload_n rfl dX2_fewestSwaps_80 ?_
        refine J_iastore (Or.inl rfl) K.1 dX2_fewestSwaps_81 ?_
        replace K := K.2
        replace K := K _ rfl
        refine J_iinc (loc' := [some (vR (some 43)), some (vR (some 1)), some (vI (zor y2 (zshl 1 (gi h 5 y3)))), some (vI (y3 + 1)), some (vI (gi h 7 y3)), some (vI (zshl 1 (gi h 5 y3))), none, none]) (by decide) rfl K.1 rfl dX2_fewestSwaps_82 ?_
        replace K := K.2
        refine J_goto (tgt := 25) dX2_fewestSwaps_85 (by decide) ?_
        exact J_forget (loc' := [some (vR (some 43)), some (vR (some 1)), some (vI (zor y2 (zshl 1 (gi h 5 y3)))), some (vI (y3 + 1)), none, none, none, none]) (And.intro (Or.inr rfl) (And.intro (Or.inr rfl) (And.intro (Or.inr rfl) (And.intro (Or.inr rfl) (And.intro (Or.inl rfl) (And.intro (Or.inl rfl) (And.intro (Or.inl rfl) (And.intro (Or.inl rfl) True.intro)))))))) K
      · replace K := K.2 c
        refine J_iconst (by decide) dX2_fewestSwaps_67 ?_
        exact J_ireturn rfl dX2_fewestSwaps_68 K
    · replace K := K.1 c
      refine J_goto (tgt := 82) dX2_fewestSwaps_47 (by decide) ?_
      refine J_iinc (loc' := [some (vR (some 43)), some (vR (some 1)), some (vI y2), some (vI (y3 + 1)), some (vI (gi h 7 y3)), none, none, none]) (by decide) rfl K.1 rfl dX2_fewestSwaps_82 ?_
      replace K := K.2
      refine J_goto (tgt := 25) dX2_fewestSwaps_85 (by decide) ?_
      exact J_forget (loc' := [some (vR (some 43)), some (vR (some 1)), some (vI y2), some (vI (y3 + 1)), none, none, none, none]) (And.intro (Or.inr rfl) (And.intro (Or.inr rfl) (And.intro (Or.inr rfl) (And.intro (Or.inr rfl) (And.intro (Or.inl rfl) (And.intro (Or.inl rfl) (And.intro (Or.inl rfl) (And.intro (Or.inl rfl) True.intro)))))))) K
set_option maxRecDepth 20000 in
set_option maxHeartbeats 2000000 in
theorem l_X2_fewestSwaps_93 {d b : Nat} {Q : Option AV → AH → Prop} {h : AH}  {y3 : Int} {y4 : Int}  (K : (8 ≤ y4 → Q (some (vI y3)) h) ∧ (¬(8 ≤ y4) → Lp_X2_fewestSwaps_103 d b Q y3 y4 0 h)) : Lp_X2_fewestSwaps_93 d b Q y3 y4 h := by
  unfold Lp_X2_fewestSwaps_93
  refine J_iload rfl dX2_fewestSwaps_93 ?_
  refine J_bipush (by decide) (by decide) dX2_fewestSwaps_95 ?_
  refine J_icmp_ge (tgt := 199) dX2_fewestSwaps_97 (by decide) (fun c => ?_) (fun c => ?_)
  · replace K := K.1 c
    refine J_iload_n rfl dX2_fewestSwaps_199 ?_
    exact J_ireturn rfl dX2_fewestSwaps_200 K
  · replace K := K.2 c
    refine J_iconst (by decide) dX2_fewestSwaps_100 ?_
    refine J_istore (loc' := [some (vR (some 43)), some (vR (some 1)), none, some (vI y3), some (vI y4), some (vI 0), none, none]) (by decide) rfl dX2_fewestSwaps_101 ?_
    exact J_forget (loc' := [some (vR (some 43)), some (vR (some 1)), none, some (vI y3), some (vI y4), some (vI 0), none, none]) (And.intro (Or.inr rfl) (And.intro (Or.inr rfl) (And.intro (Or.inl rfl) (And.intro (Or.inr rfl) (And.intro (Or.inr rfl) (And.intro (Or.inr rfl) (And.intro (Or.inl rfl) (And.intro (Or.inl rfl) True.intro)))))))) K
set_option maxRecDepth 20000 in
set_option maxHeartbeats 2000000 in
theorem l_X2_fewestSwaps_103 {d b : Nat} {Q : Option AV → AH → Prop} {h : AH}  {y3 : Int} {y4 : Int} {y5 : Int}  (K : (8 ≤ y5 → R32 (y4 + 1) ∧ Lp_X2_fewestSwaps_93 d b Q y3 (y4 + 1) h) ∧ (¬(8 ≤ y5) → (0 ≤ y4 ∧ y4 < 8) ∧ (gi h 49 y4 = (-1) → R32 (y4 + 1) ∧ Lp_X2_fewestSwaps_93 d b Q y3 (y4 + 1) h) ∧ (¬(gi h 49 y4 = (-1)) → (0 ≤ y4 ∧ y4 < 8) ∧ (0 ≤ gi h 49 y4 ∧ gi h 49 y4 < 8) ∧ (gi h 5 (gi h 49 y4) = y4 → R32 (y4 + 1) ∧ Lp_X2_fewestSwaps_93 d b Q y3 (y4 + 1) h) ∧ (¬(gi h 5 (gi h 49 y4) = y4) → (0 ≤ y4 ∧ y4 < 8) ∧ (0 ≤ gi h 49 y4 ∧ gi h 49 y4 < 8) ∧ (0 ≤ gi h 5 (gi h 49 y4) ∧ gi h 5 (gi h 49 y4) < 8) ∧ (0 ≤ y4 ∧ y4 < 8) ∧ (0 ≤ gi h 5 (gi h 49 y4) ∧ gi h 5 (gi h 49 y4) < 8) ∧ ∀ h1, h1 = si h 49 (gi h 5 (gi h 49 y4)) (gi h 49 y4) → (0 ≤ y4 ∧ y4 < 8) ∧ ∀ h2, h2 = si h1 49 y4 (gi h 49 (gi h 5 (gi h 49 y4))) → R32 (y3 + 1) ∧ R32 (y5 + 1) ∧ Lp_X2_fewestSwaps_103 d b Q (y3 + 1) y4 (y5 + 1) h2)))) : Lp_X2_fewestSwaps_103 d b Q y3 y4 y5 h := by
  unfold Lp_X2_fewestSwaps_103
  refine J_iload rfl dX2_fewestSwaps_103 ?_
  refine J_bipush (by decide) (by decide) dX2_fewestSwaps_105 ?_
  refine J_icmp_ge (tgt := 193) dX2_fewestSwaps_107 (by decide) (fun c => ?_) (fun c => ?_)
  · replace K := K.1 c
    refine J_iinc (loc' := [some (vR (some 43)), some (vR (some 1)), none, some (vI y3), some (vI (y4 + 1)), some (vI y5), none, none]) (by decide) rfl K.1 rfl dX2_fewestSwaps_193 ?_
    replace K := K.2
    refine J_goto (tgt := 93) dX2_fewestSwaps_196 (by decide) ?_
    exact J_forget (loc' := [some (vR (some 43)), some (vR (some 1)), none, some (vI y3), some (vI (y4 + 1)), none, none, none]) (And.intro (Or.inr rfl) (And.intro (Or.inr rfl) (And.intro (Or.inl rfl) (And.intro (Or.inr rfl) (And.intro (Or.inr rfl) (And.intro (Or.inl rfl) (And.intro (Or.inl rfl) (And.intro (Or.inl rfl) True.intro)))))))) K
  · replace K := K.2 c
    refine J_aload_n rfl dX2_fewestSwaps_110 ?_
    refine J_getS (r := 49) fl_RX2_27 rfl (Or.inl rfl) rfl dX2_fewestSwaps_111 ?_
    refine J_iload rfl dX2_fewestSwaps_114 ?_
    refine J_iaload (Or.inl rfl) K.1 dX2_fewestSwaps_116 ?_
    replace K := K.2
    refine J_iconst (by decide) dX2_fewestSwaps_117 ?_
    refine J_icmp_eq (tgt := 193) dX2_fewestSwaps_118 (by decide) (fun c => ?_) (fun c => ?_)
    · replace K := K.1 c
      refine J_iinc (loc' := [some (vR (some 43)), some (vR (some 1)), none, some (vI y3), some (vI (y4 + 1)), some (vI y5), none, none]) (by decide) rfl K.1 rfl dX2_fewestSwaps_193 ?_
      replace K := K.2
      refine J_goto (tgt := 93) dX2_fewestSwaps_196 (by decide) ?_
      exact J_forget (loc' := [some (vR (some 43)), some (vR (some 1)), none, some (vI y3), some (vI (y4 + 1)), none, none, none]) (And.intro (Or.inr rfl) (And.intro (Or.inr rfl) (And.intro (Or.inl rfl) (And.intro (Or.inr rfl) (And.intro (Or.inr rfl) (And.intro (Or.inl rfl) (And.intro (Or.inl rfl) (And.intro (Or.inl rfl) True.intro)))))))) K
    · replace K := K.2 c
      refine J_aload_n rfl dX2_fewestSwaps_121 ?_
      refine J_getS (r := 5) fl_RX2_66 rfl (Or.inl rfl) rfl dX2_fewestSwaps_122 ?_
      refine J_aload_n rfl dX2_fewestSwaps_125 ?_
      refine J_getS (r := 49) fl_RX2_27 rfl (Or.inl rfl) rfl dX2_fewestSwaps_126 ?_
      refine J_iload rfl dX2_fewestSwaps_129 ?_
      refine J_iaload (Or.inl rfl) K.1 dX2_fewestSwaps_131 ?_
      replace K := K.2
      refine J_iaload (Or.inl rfl) K.1 dX2_fewestSwaps_132 ?_
      replace K := K.2
      refine J_iload rfl dX2_fewestSwaps_133 ?_
      refine J_icmp_eq (tgt := 193) dX2_fewestSwaps_135 (by decide) (fun c => ?_) (fun c => ?_)
      · replace K := K.1 c
        refine J_iinc (loc' := [some (vR (some 43)), some (vR (some 1)), none, some (vI y3), some (vI (y4 + 1)), some (vI y5), none, none]) (by decide) rfl K.1 rfl dX2_fewestSwaps_193 ?_
        replace K := K.2
        refine J_goto (tgt := 93) dX2_fewestSwaps_196 (by decide) ?_
        exact J_forget (loc' := [some (vR (some 43)), some (vR (some 1)), none, some (vI y3), some (vI (y4 + 1)), none, none, none]) (And.intro (Or.inr rfl) (And.intro (Or.inr rfl) (And.intro (Or.inl rfl) (And.intro (Or.inr rfl) (And.intro (Or.inr rfl) (And.intro (Or.inl rfl) (And.intro (Or.inl rfl) (And.intro (Or.inl rfl) True.intro)))))))) K
      · replace K := K.2 c
        refine J_aload_n rfl dX2_fewestSwaps_138 ?_
        refine J_getS (r := 5) fl_RX2_66 rfl (Or.inl rfl) rfl dX2_fewestSwaps_139 ?_
        refine J_aload_n rfl dX2_fewestSwaps_142 ?_
        refine J_getS (r := 49) fl_RX2_27 rfl (Or.inl rfl) rfl dX2_fewestSwaps_143 ?_
        refine J_iload rfl dX2_fewestSwaps_146 ?_
        refine J_iaload (Or.inl rfl) K.1 dX2_fewestSwaps_148 ?_
        replace K := K.2
        refine J_iaload (Or.inl rfl) K.1 dX2_fewestSwaps_149 ?_
        replace K := K.2
        refine J_istore (loc' := [some (vR (some 43)), some (vR (some 1)), none, some (vI y3), some (vI y4), some (vI y5), some (vI (gi h 5 (gi h 49 y4))), none]) (by decide) rfl dX2_fewestSwaps_150 ?_
        refine J_aload_n rfl dX2_fewestSwaps_152 ?_
        refine J_getS (r := 49) fl_RX2_27 rfl (Or.inl rfl) rfl dX2_fewestSwaps_153 ?_
        refine J_iload rfl dX2_fewestSwaps_156 ?_
        refine J_iaload (Or.inl rfl) K.1 dX2_fewestSwaps_158 ?_
        replace K := K.2
        refine J_istore (loc' := [some (vR (some 43)), some (vR (some 1)), none, some (vI y3), some (vI y4), some (vI y5), some (vI (gi h 5 (gi h 49 y4))), some (vI (gi h 49 (gi h 5 (gi h 49 y4))))]) (by decide) rfl dX2_fewestSwaps_159 ?_
        refine J_aload_n rfl dX2_fewestSwaps_161 ?_
        refine J_getS (r := 49) fl_RX2_27 rfl (Or.inl rfl) rfl dX2_fewestSwaps_162 ?_
        refine J_iload rfl dX2_fewestSwaps_165 ?_
        refine J_aload_n rfl dX2_fewestSwaps_167 ?_
        refine J_getS (r := 49) fl_RX2_27 rfl (Or.inl rfl) rfl dX2_fewestSwaps_168 ?_
        refine J_iload rfl dX2_fewestSwaps_171 ?_
        refine J_iaload (Or.inl rfl) K.1 dX2_fewestSwaps_173 ?_
        replace K := K.2
        refine J_iastore (Or.inl rfl) K.1 dX2_fewestSwaps_174 ?_
        replace K := K.2
        replace K := K _ rfl
        refine J_aload_n rfl dX2_fewestSwaps_175 ?_
        refine J_getS (r := 49) fl_RX2_27 rfl (Or.inl rfl) rfl dX2_fewestSwaps_176 ?_
        refine J_iload rfl dX2_fewestSwaps_179 ?_
        refine J_iload rfl dX2_fewestSwaps_181 ?_
        refine J_iastore (Or.inl rfl) K.1 dX2_fewestSwaps_183 ?_
        replace K := K.2
        replace K := K _ rfl
        refine J_iinc (loc' := [some (vR (some 43)), some (vR (some 1)), none, some (vI (y3 + 1)), some (vI y4), some (vI y5), some (vI (gi h 5 (gi h 49 y4))), some (vI (gi h 49 (gi h 5 (gi h 49 y4))))]) (by decide) rfl K.1 rfl dX2_fewestSwaps_184 ?_
        replace K := K.2
        refine J_iinc (loc' := [some (vR (some 43)), some (vR (some 1)), none, some (vI (y3 + 1)), some (vI y4), some (vI (y5 + 1)), some (vI (gi h 5 (gi h 49 y4))), some (vI (gi h 49 (gi h 5 (gi h 49 y4))))]) (by decide) rfl K.1 rfl dX2_fewestSwaps_187 ?_
        replace K := K.2
        refine J_goto (tgt := 103) dX2_fewestSwaps_190 (by decide) ?_
        exact J_forget (loc' := [some (vR (some 43)), some (vR (some 1)), none, some (vI (y3 + 1)), some (vI y4), some (vI (y5 + 1)), none, none]) (And.intro (Or.inr rfl) (And.intro (Or.inr rfl) (And.intro (Or.inl rfl) (And.intro (Or.inr rfl) (And.intro (Or.inr rfl) (And.intro (Or.inr rfl) (And.intro (Or.inl rfl) (And.intro (Or.inl rfl) True.intro)))))))) K
set_option maxRecDepth 20000 in
set_option maxHeartbeats 2000000 in
theorem w_X2_fewestSwaps {d b : Nat} {Q : Option AV → AH → Prop} {h : AH}   (K : Lp_X2_fewestSwaps_4 d b Q 0 0 h) : WM GX d b mX2_fewestSwaps [vR (some 43), vR (some 1)] h Q := by
  refine WM_introE (loc' := [some (vR (some 43)), some (vR (some 1)), none, none, none, none, none, none]) rfl (by decide) (Nat.le_of_ble_eq_true rfl) ?_
  refine J_iconst (by decide) dX2_fewestSwaps_0 ?_
  refine J_istore_n (loc' := [some (vR (some 43)), some (vR (some 1)), some (vI 0), none, none, none, none, none]) (by decide) rfl dX2_fewestSwaps_1 ?_
  refine J_iconst (by decide) dX2_fewestSwaps_2 ?_
  refine J_istore_n (loc' := [some (vR (some 43)), some (vR (some 1)), some (vI 0), some (vI 0), none, none, none, none]) (by decide) rfl dX2_fewestSwaps_3 ?_
  exact J_forget (loc' := [some (vR (some 43)), some (vR (some 1)), some (vI 0), some (vI 0), none, none, none, none]) (And.intro (Or.inr rfl) (And.intro (Or.inr rfl) (And.intro (Or.inr rfl) (And.intro (Or.inr rfl) (And.intro (Or.inl rfl) (And.intro (Or.inl rfl) (And.intro (Or.inl rfl) (And.intro (Or.inl rfl) True.intro)))))))) K
set_option maxRecDepth 20000 in
set_option maxHeartbeats 2000000 in
theorem w_X7_right {d b : Nat} {Q : Option AV → AH → Prop} {h : AH}   (K : WM GX d 0 mX2_fewestSwaps [vR (some 43), vR (some 1)] h (fun r h1 => ∃ u1, r = some (vI u1) ∧ Q (some (vI u1)) h1)) : WM GX (d + 1) b mX7_right [vR (some 0)] h Q := by
  refine WM_introE (loc' := [some (vR (some 0))]) rfl (by decide) (Nat.le_of_ble_eq_true rfl) ?_
  refine J_aload_n rfl dX7_right_0 ?_
  refine J_getS (r := 43) fl_RX7_64 rfl (Or.inl rfl) rfl dX7_right_1 ?_
  refine J_aload_n rfl dX7_right_4 ?_
  refine J_getS (r := 1) fl_RX7_10 rfl (Or.inl rfl) rfl dX7_right_5 ?_
  refine J_b0 (J_callV (b1 := 0) (ci := 2) (vs := [vR (some 1)]) (rest := []) (Or.inr rfl) ml_RX7_260 rfl (by decide) rfl rfl (Or.inl rfl) (Nat.le_of_ble_eq_true rfl) rfl dX7_right_8 (WM_mono K (fun r h1 K => ?_)))
  obtain ⟨u1, rfl, K⟩ := K
  show J _ _ _ _ _ _ _ [vI u1] _
  exact J_ireturn rfl dX7_right_11 K
def Lp_X8_leadsRing_7 (d b : Nat) (Q : Option AV → AH → Prop)  (y1 : Int) (y2 : Int) (y3 : Int) (y4 : Int) (h : AH) : Prop := J GM (d + 1) b mX8_leadsRing Q 7 [some (vR (some 0)), some (vI y1), some (vI y2), some (vI y3), some (vI y4), none] [] h
set_option maxRecDepth 20000 in
set_option maxHeartbeats 2000000 in
theorem l_X8_leadsRing_7 {d b : Nat} {Q : Option AV → AH → Prop} {h : AH}  {y1 : Int} {y2 : Int} {y3 : Int} {y4 : Int}  (K : (8 ≤ y4 → Q (some (vI 0)) h) ∧ (¬(8 ≤ y4) → R32 (88 + y2) ∧ (0 ≤ 88 + y2 ∧ 88 + y2 < 5540) ∧ (InvR (gi h 2)) ∧ ((0 : Int) ≤ (gi h 2 (88 + y2))) ∧ (dOf (gi h 2) (gi h 2 (88 + y2)) = (-1) → (dOf (gi h 2) (gi h 2 (88 + y2)) = y1 → (y3 = 0 → Q (some (vI 0)) h) ∧ (¬(y3 = 0) → Q (some (vI 1)) h)) ∧ (¬(dOf (gi h 2) (gi h 2 (88 + y2)) = y1) → Q (some (vI 0)) h)) ∧ (¬(dOf (gi h 2) (gi h 2 (88 + y2)) = (-1)) → (dOf (gi h 2) (gi h 2 (88 + y2)) = y1 → (dOf (gi h 2) (gi h 2 (88 + y2)) = y1 → (y3 = 0 → Q (some (vI 0)) h) ∧ (¬(y3 = 0) → Q (some (vI 1)) h)) ∧ (¬(dOf (gi h 2) (gi h 2 (88 + y2)) = y1) → Q (some (vI 0)) h)) ∧ (¬(dOf (gi h 2) (gi h 2 (88 + y2)) = y1) → (y3 = 0 → R32 (y4 + 1) ∧ Lp_X8_leadsRing_7 d b Q y1 (dOf (gi h 2) (gi h 2 (88 + y2))) 0 (y4 + 1) h) ∧ (¬(y3 = 0) → (dOf (gi h 2) (gi h 2 (88 + y2)) ≤ y1 → R32 (y4 + 1) ∧ Lp_X8_leadsRing_7 d b Q y1 (dOf (gi h 2) (gi h 2 (88 + y2))) 0 (y4 + 1) h) ∧ (¬(dOf (gi h 2) (gi h 2 (88 + y2)) ≤ y1) → R32 (y4 + 1) ∧ Lp_X8_leadsRing_7 d b Q y1 (dOf (gi h 2) (gi h 2 (88 + y2))) 1 (y4 + 1) h)))))) : Lp_X8_leadsRing_7 d b Q y1 y2 y3 y4 h := by
  unfold Lp_X8_leadsRing_7
  refine J_iload rfl dX8_leadsRing_7 ?_
  refine J_bipush (by decide) (by decide) dX8_leadsRing_9 ?_
  refine J_icmp_ge (tgt := 82) dX8_leadsRing_11 (by decide) (fun c => ?_) (fun c => ?_)
  · replace K := K.1 c
    refine J_iconst (by decide) dX8_leadsRing_82 ?_
    exact J_zreturn ⟨rfl, by decide⟩ dX8_leadsRing_83 K
  · replace K := K.2 c
    refine J_aload_n rfl dX8_leadsRing_14 ?_
    refine J_aload_n rfl dX8_leadsRing_15 ?_
    refine J_getS (r := 2) fl_RX8_13 rfl (Or.inl rfl) rfl dX8_leadsRing_16 ?_
    refine J_bipush (by decide) (by decide) dX8_leadsRing_19 ?_
    refine J_iload_n rfl dX8_leadsRing_21 ?_
    refine J_iadd K.1 dX8_leadsRing_22 ?_
    replace K := K.2
    refine J_iaload (Or.inl rfl) K.1 dX8_leadsRing_23 ?_
    replace K := K.2
    refine J_b0 (J_callV (b1 := 0) (ci := 8) (vs := [vI (gi h 2 (88 + y2))]) (rest := []) (Or.inl rfl) ml_RX8_200 rfl (by decide) rfl rfl (Or.inl rfl) (Nat.le_of_ble_eq_true rfl) rfl dX8_leadsRing_24 (c_X8_doorOf  K.1 K.2.1 ?_))
    replace K := K.2.2
    show J _ _ _ _ _ _ _ [vI (dOf (gi h 2) (gi h 2 (88 + y2)))] _
    refine J_istore (loc' := [some (vR (some 0)), some (vI y1), some (vI y2), some (vI y3), some (vI y4), some (vI (dOf (gi h 2) (gi h 2 (88 + y2))))]) (by decide) rfl dX8_leadsRing_27 ?_
    refine J_iload rfl dX8_leadsRing_29 ?_
    refine J_iconst (by decide) dX8_leadsRing_31 ?_
    refine J_icmp_eq (tgt := 41) dX8_leadsRing_32 (by decide) (fun c => ?_) (fun c => ?_)
    · replace K := K.1 c
      refine J_iload rfl dX8_leadsRing_41 ?_
      refine J_iload_n rfl dX8_leadsRing_43 ?_
      refine J_icmp_ne (tgt := 55) dX8_leadsRing_44 (by decide) (fun c => ?_) (fun c => ?_)
      · replace K := K.2 c
        refine J_iconst (by decide) dX8_leadsRing_55 ?_
        exact J_zreturn ⟨rfl, by decide⟩ dX8_leadsRing_56 K
      · replace K := K.1 c
        refine J_iload_n rfl dX8_leadsRing_47 ?_
        refine J_if_eq (tgt := 55) dX8_leadsRing_48 (by decide) (fun c => ?_) (fun c => ?_)
        · replace K := K.1 c
          refine J_iconst (by decide) dX8_leadsRing_55 ?_
          exact J_zreturn ⟨rfl, by decide⟩ dX8_leadsRing_56 K
        · replace K := K.2 c
          refine J_iconst (by decide) dX8_leadsRing_51 ?_
          refine J_goto (tgt := 56) dX8_leadsRing_52 (by decide) ?_
          exact J_zreturn ⟨rfl, by decide⟩ dX8_leadsRing_56 K
    · replace K := K.2 c
      refine J_iload rfl dX8_leadsRing_35 ?_
      refine J_iload_n rfl dX8_leadsRing_37 ?_
      refine J_icmp_ne (tgt := 57) dX8_leadsRing_38 (by decide) (fun c => ?_) (fun c => ?_)
      · replace K := K.2 c
        refine J_iload_n rfl dX8_leadsRing_57 ?_
        refine J_if_eq (tgt := 71) dX8_leadsRing_58 (by decide) (fun c => ?_) (fun c => ?_)
        · replace K := K.1 c
          refine J_iconst (by decide) dX8_leadsRing_71 ?_
          refine J_istore_n (loc' := [some (vR (some 0)), some (vI y1), some (vI y2), some (vI 0), some (vI y4), some (vI (dOf (gi h 2) (gi h 2 (88 + y2))))]) (by decide) rfl dX8_leadsRing_72 ?_
          refine J_iload rfl dX8_leadsRing_73 ?_
          refine J_istore_n (loc' := [some (vR (some 0)), some (vI y1), some (vI (dOf (gi h 2) (gi h 2 (88 + y2)))), some (vI 0), some (vI y4), some (vI (dOf (gi h 2) (gi h 2 (88 + y2))))]) (by decide) rfl dX8_leadsRing_75 ?_
          refine J_iinc (loc' := [some (vR (some 0)), some (vI y1), some (vI (dOf (gi h 2) (gi h 2 (88 + y2)))), some (vI 0), some (vI (y4 + 1)), some (vI (dOf (gi h 2) (gi h 2 (88 + y2))))]) (by decide) rfl K.1 rfl dX8_leadsRing_76 ?_
          replace K := K.2
          refine J_goto (tgt := 7) dX8_leadsRing_79 (by decide) ?_
          exact J_forget (loc' := [some (vR (some 0)), some (vI y1), some (vI (dOf (gi h 2) (gi h 2 (88 + y2)))), some (vI 0), some (vI (y4 + 1)), none]) (And.intro (Or.inr rfl) (And.intro (Or.inr rfl) (And.intro (Or.inr rfl) (And.intro (Or.inr rfl) (And.intro (Or.inr rfl) (And.intro (Or.inl rfl) True.intro)))))) K
        · replace K := K.2 c
          refine J_iload rfl dX8_leadsRing_61 ?_
          refine J_iload_n rfl dX8_leadsRing_63 ?_
          refine J_icmp_le (tgt := 71) dX8_leadsRing_64 (by decide) (fun c => ?_) (fun c => ?_)
          · replace K := K.1 c
            refine J_iconst (by decide) dX8_leadsRing_71 ?_
            refine J_istore_n (loc' := [some (vR (some 0)), some (vI y1), some (vI y2), some (vI 0), some (vI y4), some (vI (dOf (gi h 2) (gi h 2 (88 + y2))))]) (by decide) rfl dX8_leadsRing_72 ?_
            refine J_iload rfl dX8_leadsRing_73 ?_
            refine J_istore_n (loc' := [some (vR (some 0)), some (vI y1), some (vI (dOf (gi h 2) (gi h 2 (88 + y2)))), some (vI 0), some (vI y4), some (vI (dOf (gi h 2) (gi h 2 (88 + y2))))]) (by decide) rfl dX8_leadsRing_75 ?_
            refine J_iinc (loc' := [some (vR (some 0)), some (vI y1), some (vI (dOf (gi h 2) (gi h 2 (88 + y2)))), some (vI 0), some (vI (y4 + 1)), some (vI (dOf (gi h 2) (gi h 2 (88 + y2))))]) (by decide) rfl K.1 rfl dX8_leadsRing_76 ?_
            replace K := K.2
            refine J_goto (tgt := 7) dX8_leadsRing_79 (by decide) ?_
            exact J_forget (loc' := [some (vR (some 0)), some (vI y1), some (vI (dOf (gi h 2) (gi h 2 (88 + y2)))), some (vI 0), some (vI (y4 + 1)), none]) (And.intro (Or.inr rfl) (And.intro (Or.inr rfl) (And.intro (Or.inr rfl) (And.intro (Or.inr rfl) (And.intro (Or.inr rfl) (And.intro (Or.inl rfl) True.intro)))))) K
          · replace K := K.2 c
            refine J_iconst (by decide) dX8_leadsRing_67 ?_
            refine J_goto (tgt := 72) dX8_leadsRing_68 (by decide) ?_
            refine J_istore_n (loc' := [some (vR (some 0)), some (vI y1), some (vI y2), some (vI 1), some (vI y4), some (vI (dOf (gi h 2) (gi h 2 (88 + y2))))]) (by decide) rfl dX8_leadsRing_72 ?_
            refine J_iload rfl dX8_leadsRing_73 ?_
            refine J_istore_n (loc' := [some (vR (some 0)), some (vI y1), some (vI (dOf (gi h 2) (gi h 2 (88 + y2)))), some (vI 1), some (vI y4), some (vI (dOf (gi h 2) (gi h 2 (88 + y2))))]) (by decide) rfl dX8_leadsRing_75 ?_
            refine J_iinc (loc' := [some (vR (some 0)), some (vI y1), some (vI (dOf (gi h 2) (gi h 2 (88 + y2)))), some (vI 1), some (vI (y4 + 1)), some (vI (dOf (gi h 2) (gi h 2 (88 + y2))))]) (by decide) rfl K.1 rfl dX8_leadsRing_76 ?_
            replace K := K.2
            refine J_goto (tgt := 7) dX8_leadsRing_79 (by decide) ?_
            exact J_forget (loc' := [some (vR (some 0)), some (vI y1), some (vI (dOf (gi h 2) (gi h 2 (88 + y2)))), some (vI 1), some (vI (y4 + 1)), none]) (And.intro (Or.inr rfl) (And.intro (Or.inr rfl) (And.intro (Or.inr rfl) (And.intro (Or.inr rfl) (And.intro (Or.inr rfl) (And.intro (Or.inl rfl) True.intro)))))) K
      · replace K := K.1 c
        refine J_iload rfl dX8_leadsRing_41 ?_
        refine J_iload_n rfl dX8_leadsRing_43 ?_
        refine J_icmp_ne (tgt := 55) dX8_leadsRing_44 (by decide) (fun c => ?_) (fun c => ?_)
        · replace K := K.2 c
          refine J_iconst (by decide) dX8_leadsRing_55 ?_
          exact J_zreturn ⟨rfl, by decide⟩ dX8_leadsRing_56 K
        · replace K := K.1 c
          refine J_iload_n rfl dX8_leadsRing_47 ?_
          refine J_if_eq (tgt := 55) dX8_leadsRing_48 (by decide) (fun c => ?_) (fun c => ?_)
          · replace K := K.1 c
            refine J_iconst (by decide) dX8_leadsRing_55 ?_
            exact J_zreturn ⟨rfl, by decide⟩ dX8_leadsRing_56 K
          · replace K := K.2 c
            refine J_iconst (by decide) dX8_leadsRing_51 ?_
            refine J_goto (tgt := 56) dX8_leadsRing_52 (by decide) ?_
            exact J_zreturn ⟨rfl, by decide⟩ dX8_leadsRing_56 K
set_option maxRecDepth 20000 in
set_option maxHeartbeats 2000000 in
theorem w_X8_leadsRing {d b : Nat} {Q : Option AV → AH → Prop} {h : AH} {x1 : Int}  (K : R32 x1 → Lp_X8_leadsRing_7 d b Q x1 x1 1 0 h) : WM GM (d + 1) b mX8_leadsRing [vR (some 0), vI x1] h Q := by
  refine WM_introE (loc' := [some (vR (some 0)), some (vI x1), none, none, none, none]) rfl (by decide) (Nat.le_of_ble_eq_true rfl) ?_
  refine J_rgl (i := 1) rfl (fun r1 => ?_)
  replace K := K r1
  refine J_iload_n rfl dX8_leadsRing_0 ?_
  refine J_istore_n (loc' := [some (vR (some 0)), some (vI x1), some (vI x1), none, none, none]) (by decide) rfl dX8_leadsRing_1 ?_
  refine J_iconst (by decide) dX8_leadsRing_2 ?_
  refine J_istore_n (loc' := [some (vR (some 0)), some (vI x1), some (vI x1), some (vI 1), none, none]) (by decide) rfl dX8_leadsRing_3 ?_
  refine J_iconst (by decide) dX8_leadsRing_4 ?_
  refine J_istore (loc' := [some (vR (some 0)), some (vI x1), some (vI x1), some (vI 1), some (vI 0), none]) (by decide) rfl dX8_leadsRing_5 ?_
  exact J_forget (loc' := [some (vR (some 0)), some (vI x1), some (vI x1), some (vI 1), some (vI 0), none]) (And.intro (Or.inr rfl) (And.intro (Or.inr rfl) (And.intro (Or.inr rfl) (And.intro (Or.inr rfl) (And.intro (Or.inr rfl) (And.intro (Or.inl rfl) True.intro)))))) K
def Lp_X8_right_9 (d b : Nat) (Q : Option AV → AH → Prop)  (y1 : Int) (y2 : Int) (h : AH) : Prop := J GM (d + 2) b mX8_right Q 9 [some (vR (some 0)), some (vI y1), some (vI y2), none] [] h
def Lp_X8_right_34 (d b : Nat) (Q : Option AV → AH → Prop)  (y1 : Int) (y2 : Int) (y3 : Int) (h : AH) : Prop := J GM (d + 2) b mX8_right Q 34 [some (vR (some 0)), some (vI y1), some (vI y2), some (vI y3)] [] h
set_option maxRecDepth 20000 in
set_option maxHeartbeats 2000000 in
theorem l_X8_right_9 {d b : Nat} {Q : Option AV → AH → Prop} {h : AH}  {y1 : Int} {y2 : Int}  (K : (gi h 2 1 ≤ y2 → Q (some (vI y1)) h) ∧ (¬(gi h 2 1 ≤ y2) → R32 (7 + y2) ∧ (0 ≤ 7 + y2 ∧ 7 + y2 < 5540) ∧ (gi h 2 (7 + y2) = (-1) → R32 (y2 + 1) ∧ Lp_X8_right_9 d b Q y1 (y2 + 1) h) ∧ (¬(gi h 2 (7 + y2) = (-1)) → Lp_X8_right_34 d b Q y1 y2 0 h))) : Lp_X8_right_9 d b Q y1 y2 h := by
  unfold Lp_X8_right_9
  refine J_iload_n rfl dX8_right_9 ?_
  refine J_aload_n rfl dX8_right_10 ?_
  refine J_getS (r := 2) fl_RX8_13 rfl (Or.inl rfl) rfl dX8_right_11 ?_
  refine J_iconst (by decide) dX8_right_14 ?_
  refine J_iaload (Or.inl rfl) (by decide) dX8_right_15 ?_
  refine J_icmp_ge (tgt := 138) dX8_right_16 (by decide) (fun c => ?_) (fun c => ?_)
  · replace K := K.1 c
    refine J_iload_n rfl dX8_right_138 ?_
    exact J_ireturn rfl dX8_right_139 K
  · replace K := K.2 c
    refine J_aload_n rfl dX8_right_19 ?_
    refine J_getS (r := 2) fl_RX8_13 rfl (Or.inl rfl) rfl dX8_right_20 ?_
    refine J_bipush (by decide) (by decide) dX8_right_23 ?_
    refine J_iload_n rfl dX8_right_25 ?_
    refine J_iadd K.1 dX8_right_26 ?_
    replace K := K.2
    refine J_iaload (Or.inl rfl) K.1 dX8_right_27 ?_
    replace K := K.2
    refine J_iconst (by decide) dX8_right_28 ?_
    refine J_icmp_eq (tgt := 132) dX8_right_29 (by decide) (fun c => ?_) (fun c => ?_)
    · replace K := K.1 c
      refine J_iinc (loc' := [some (vR (some 0)), some (vI y1), some (vI (y2 + 1)), none]) (by decide) rfl K.1 rfl dX8_right_132 ?_
      replace K := K.2
      refine J_goto (tgt := 9) dX8_right_135 (by decide) ?_
      exact J_forget (loc' := [some (vR (some 0)), some (vI y1), some (vI (y2 + 1)), none]) (And.intro (Or.inr rfl) (And.intro (Or.inr rfl) (And.intro (Or.inr rfl) (And.intro (Or.inl rfl) True.intro)))) K
    · replace K := K.2 c
      refine J_iconst (by decide) dX8_right_32 ?_
      refine J_istore_n (loc' := [some (vR (some 0)), some (vI y1), some (vI y2), some (vI 0)]) (by decide) rfl dX8_right_33 ?_
      exact J_forget (loc' := [some (vR (some 0)), some (vI y1), some (vI y2), some (vI 0)]) (And.intro (Or.inr rfl) (And.intro (Or.inr rfl) (And.intro (Or.inr rfl) (And.intro (Or.inr rfl) True.intro)))) K
set_option maxRecDepth 20000 in
set_option maxHeartbeats 2000000 in
theorem l_X8_right_34 {d b : Nat} {Q : Option AV → AH → Prop} {h : AH}  {y1 : Int} {y2 : Int} {y3 : Int}  (K : (y2 ≤ y3 → R32 (7 + y2) ∧ (0 ≤ 7 + y2 ∧ 7 + y2 < 5540) ∧ R32 (88 + y2) ∧ (0 ≤ 88 + y2 ∧ 88 + y2 < 5540) ∧ (gi h 2 (7 + y2) = gi h 2 (88 + y2) → R32 (y1 + 0) ∧ R32 (y2 + 1) ∧ Lp_X8_right_9 d b Q (y1 + 0) (y2 + 1) h) ∧ (¬(gi h 2 (7 + y2) = gi h 2 (88 + y2)) → WM GM (d + 1) 0 mX8_leadsRing [vR (some 0), vI y2] h (fun r h1 => ∃ u1, r = some (vI u1) ∧ (u1 = 0 → R32 (y1 + 1) ∧ R32 (y2 + 1) ∧ Lp_X8_right_9 d b Q (y1 + 1) (y2 + 1) h1) ∧ (¬(u1 = 0) → R32 (y1 + 0) ∧ R32 (y2 + 1) ∧ Lp_X8_right_9 d b Q (y1 + 0) (y2 + 1) h1)))) ∧ (¬(y2 ≤ y3) → R32 (7 + y3) ∧ (0 ≤ 7 + y3 ∧ 7 + y3 < 5540) ∧ (gi h 2 (7 + y3) = (-1) → R32 (y3 + 1) ∧ Lp_X8_right_34 d b Q y1 y2 (y3 + 1) h) ∧ (¬(gi h 2 (7 + y3) = (-1)) → R32 (88 + y3) ∧ (0 ≤ 88 + y3 ∧ 88 + y3 < 5540) ∧ R32 (88 + y2) ∧ (0 ≤ 88 + y2 ∧ 88 + y2 < 5540) ∧ (gi h 2 (88 + y3) = gi h 2 (88 + y2) → Q (some (vI (-1))) h) ∧ (¬(gi h 2 (88 + y3) = gi h 2 (88 + y2)) → R32 (y3 + 1) ∧ Lp_X8_right_34 d b Q y1 y2 (y3 + 1) h)))) : Lp_X8_right_34 d b Q y1 y2 y3 h := by
  unfold Lp_X8_right_34
  refine J_iload_n rfl dX8_right_34 ?_
  refine J_iload_n rfl dX8_right_35 ?_
  refine J_icmp_ge (tgt := 81) dX8_right_36 (by decide) (fun c => ?_) (fun c => ?_)
  · replace K := K.1 c
    refine J_aload_n rfl dX8_right_81 ?_
    refine J_getS (r := 2) fl_RX8_13 rfl (Or.inl rfl) rfl dX8_right_82 ?_
    refine J_bipush (by decide) (by decide) dX8_right_85 ?_
    refine J_iload_n rfl dX8_right_87 ?_
    refine J_iadd K.1 dX8_right_88 ?_
    replace K := K.2
    refine J_iaload (Or.inl rfl) K.1 dX8_right_89 ?_
    replace K := K.2
    refine J_aload_n rfl dX8_right_90 ?_
    refine J_getS (r := 2) fl_RX8_13 rfl (Or.inl rfl) rfl dX8_right_91 ?_
    refine J_bipush (by decide) (by decide) dX8_right_94 ?_
    refine J_iload_n rfl dX8_right_96 ?_
    refine J_iadd K.1 dX8_right_97 ?_
    replace K := K.2
    refine J_iaload (Or.inl rfl) K.1 dX8_right_98 ?_
    replace K := K.2
    refine J_icmp_eq (tgt := 106) dX8_right_99 (by decide) (fun c => ?_) (fun c => ?_)
    · replace K := K.1 c
      refine J_iconst (by decide) dX8_right_106 ?_
      refine J_istore_n (loc' := [some (vR (some 0)), some (vI y1), some (vI y2), some (vI 0)]) (by decide) rfl dX8_right_107 ?_
      refine J_iload_n rfl dX8_right_108 ?_
      refine J_iload_n rfl dX8_right_109 ?_
      refine J_if_eq (tgt := 129) dX8_right_110 (by decide) (fun _ => ?_) (fun c => absurd c (by decide))
      refine J_iconst (by decide) dX8_right_129 ?_
      refine J_iadd K.1 dX8_right_130 ?_
      replace K := K.2
      refine J_istore_n (loc' := [some (vR (some 0)), some (vI (y1 + 0)), some (vI y2), some (vI 0)]) (by decide) rfl dX8_right_131 ?_
      refine J_iinc (loc' := [some (vR (some 0)), some (vI (y1 + 0)), some (vI (y2 + 1)), some (vI 0)]) (by decide) rfl K.1 rfl dX8_right_132 ?_
      replace K := K.2
      refine J_goto (tgt := 9) dX8_right_135 (by decide) ?_
      exact J_forget (loc' := [some (vR (some 0)), some (vI (y1 + 0)), some (vI (y2 + 1)), none]) (And.intro (Or.inr rfl) (And.intro (Or.inr rfl) (And.intro (Or.inr rfl) (And.intro (Or.inl rfl) True.intro)))) K
    · replace K := K.2 c
      refine J_iconst (by decide) dX8_right_102 ?_
      refine J_goto (tgt := 107) dX8_right_103 (by decide) ?_
      refine J_istore_n (loc' := [some (vR (some 0)), some (vI y1), some (vI y2), some (vI 1)]) (by decide) rfl dX8_right_107 ?_
      refine J_iload_n rfl dX8_right_108 ?_
      refine J_iload_n rfl dX8_right_109 ?_
      refine J_if_eq (tgt := 129) dX8_right_110 (by decide) (fun c => absurd c (by decide)) (fun _ => ?_)
      refine J_aload_n rfl dX8_right_113 ?_
      refine J_iload_n rfl dX8_right_114 ?_
      refine J_b0 (J_callV (b1 := 0) (ci := 8) (vs := [vI y2]) (rest := [vI y1]) (Or.inl rfl) ml_RX8_488 rfl (by decide) rfl rfl (Or.inl rfl) (Nat.le_of_ble_eq_true rfl) rfl dX8_right_115 (WM_mono K (fun r h1 K => ?_)))
      obtain ⟨u1, rfl, K⟩ := K
      show J _ _ _ _ _ _ _ [vI u1, vI y1] _
      refine J_if_eq (tgt := 125) dX8_right_118 (by decide) (fun c => ?_) (fun c => ?_)
      · replace K := K.1 c
        refine J_iconst (by decide) dX8_right_125 ?_
        refine J_goto (tgt := 130) dX8_right_126 (by decide) ?_
        refine J_iadd K.1 dX8_right_130 ?_
        replace K := K.2
        refine J_istore_n (loc' := [some (vR (some 0)), some (vI (y1 + 1)), some (vI y2), some (vI 1)]) (by decide) rfl dX8_right_131 ?_
        refine J_iinc (loc' := [some (vR (some 0)), some (vI (y1 + 1)), some (vI (y2 + 1)), some (vI 1)]) (by decide) rfl K.1 rfl dX8_right_132 ?_
        replace K := K.2
        refine J_goto (tgt := 9) dX8_right_135 (by decide) ?_
        exact J_forget (loc' := [some (vR (some 0)), some (vI (y1 + 1)), some (vI (y2 + 1)), none]) (And.intro (Or.inr rfl) (And.intro (Or.inr rfl) (And.intro (Or.inr rfl) (And.intro (Or.inl rfl) True.intro)))) K
      · replace K := K.2 c
        refine J_iconst (by decide) dX8_right_121 ?_
        refine J_goto (tgt := 130) dX8_right_122 (by decide) ?_
        refine J_iadd K.1 dX8_right_130 ?_
        replace K := K.2
        refine J_istore_n (loc' := [some (vR (some 0)), some (vI (y1 + 0)), some (vI y2), some (vI 1)]) (by decide) rfl dX8_right_131 ?_
        refine J_iinc (loc' := [some (vR (some 0)), some (vI (y1 + 0)), some (vI (y2 + 1)), some (vI 1)]) (by decide) rfl K.1 rfl dX8_right_132 ?_
        replace K := K.2
        refine J_goto (tgt := 9) dX8_right_135 (by decide) ?_
        exact J_forget (loc' := [some (vR (some 0)), some (vI (y1 + 0)), some (vI (y2 + 1)), none]) (And.intro (Or.inr rfl) (And.intro (Or.inr rfl) (And.intro (Or.inr rfl) (And.intro (Or.inl rfl) True.intro)))) K
  · replace K := K.2 c
    refine J_aload_n rfl dX8_right_39 ?_
    refine J_getS (r := 2) fl_RX8_13 rfl (Or.inl rfl) rfl dX8_right_40 ?_
    refine J_bipush (by decide) (by decide) dX8_right_43 ?_
    refine J_iload_n rfl dX8_right_45 ?_
    refine J_iadd K.1 dX8_right_46 ?_
    replace K := K.2
    refine J_iaload (Or.inl rfl) K.1 dX8_right_47 ?_
    replace K := K.2
    refine J_iconst (by decide) dX8_right_48 ?_
    refine J_icmp_eq (tgt := 75) dX8_right_49 (by decide) (fun c => ?_) (fun c => ?_)
    · replace K := K.1 c
      refine J_iinc (loc' := [some (vR (some 0)), some (vI y1), some (vI y2), some (vI (y3 + 1))]) (by decide) rfl K.1 rfl dX8_right_75 ?_
      replace K := K.2
      refine J_goto (tgt := 34) dX8_right_78 (by decide) ?_
      exact J_forget (loc' := [some (vR (some 0)), some (vI y1), some (vI y2), some (vI (y3 + 1))]) (And.intro (Or.inr rfl) (And.intro (Or.inr rfl) (And.intro (Or.inr rfl) (And.intro (Or.inr rfl) True.intro)))) K
    · replace K := K.2 c
      refine J_aload_n rfl dX8_right_52 ?_
      refine J_getS (r := 2) fl_RX8_13 rfl (Or.inl rfl) rfl dX8_right_53 ?_
      refine J_bipush (by decide) (by decide) dX8_right_56 ?_
      refine J_iload_n rfl dX8_right_58 ?_
      refine J_iadd K.1 dX8_right_59 ?_
      replace K := K.2
      refine J_iaload (Or.inl rfl) K.1 dX8_right_60 ?_
      replace K := K.2
      refine J_aload_n rfl dX8_right_61 ?_
      refine J_getS (r := 2) fl_RX8_13 rfl (Or.inl rfl) rfl dX8_right_62 ?_
      refine J_bipush (by decide) (by decide) dX8_right_65 ?_
      refine J_iload_n rfl dX8_right_67 ?_
      refine J_iadd K.1 dX8_right_68 ?_
      replace K := K.2
      refine J_iaload (Or.inl rfl) K.1 dX8_right_69 ?_
      replace K := K.2
      refine J_icmp_ne (tgt := 75) dX8_right_70 (by decide) (fun c => ?_) (fun c => ?_)
      · replace K := K.2 c
        refine J_iinc (loc' := [some (vR (some 0)), some (vI y1), some (vI y2), some (vI (y3 + 1))]) (by decide) rfl K.1 rfl dX8_right_75 ?_
        replace K := K.2
        refine J_goto (tgt := 34) dX8_right_78 (by decide) ?_
        exact J_forget (loc' := [some (vR (some 0)), some (vI y1), some (vI y2), some (vI (y3 + 1))]) (And.intro (Or.inr rfl) (And.intro (Or.inr rfl) (And.intro (Or.inr rfl) (And.intro (Or.inr rfl) True.intro)))) K
      · replace K := K.1 c
        refine J_iconst (by decide) dX8_right_73 ?_
        exact J_ireturn rfl dX8_right_74 K
set_option maxRecDepth 20000 in
set_option maxHeartbeats 2000000 in
theorem w_X8_right {d b : Nat} {Q : Option AV → AH → Prop} {h : AH}   (K : ∀ h1, h1 = si h 0 0 0 → Lp_X8_right_9 d b Q 0 0 h1) : WM GM (d + 2) b mX8_right [vR (some 0)] h Q := by
  refine WM_introE (loc' := [some (vR (some 0)), none, none, none]) rfl (by decide) (Nat.le_of_ble_eq_true rfl) ?_
  refine J_aload_n rfl dX8_right_0 ?_
  refine J_iconst (by decide) dX8_right_1 ?_
  refine J_putI fl_RX8_161 rfl (Or.inl rfl) dX8_right_2 ?_
  replace K := K _ rfl
  refine J_iconst (by decide) dX8_right_5 ?_
  refine J_istore_n (loc' := [some (vR (some 0)), some (vI 0), none, none]) (by decide) rfl dX8_right_6 ?_
  refine J_iconst (by decide) dX8_right_7 ?_
  refine J_istore_n (loc' := [some (vR (some 0)), some (vI 0), some (vI 0), none]) (by decide) rfl dX8_right_8 ?_
  exact J_forget (loc' := [some (vR (some 0)), some (vI 0), some (vI 0), none]) (And.intro (Or.inr rfl) (And.intro (Or.inr rfl) (And.intro (Or.inr rfl) (And.intro (Or.inl rfl) True.intro)))) K
