set_option maxRecDepth 20000 in
set_option maxHeartbeats 2000000 in
theorem w_X7_of {d b : Nat} {Q : Option AV → AH → Prop} {h : AH} {x1 : Int} {x2 : Int}  (K : R32 x1 → R32 x2 → ((0 : Int) ≤ x1 ∧ x1 < gi h 1 2 → (x2 = 0 → (0 ≤ x1 ∧ x1 < 8) ∧ Q (some (vI (gi h 3 x1))) h) ∧ (¬(x2 = 0) → (x2 = 1 → (0 ≤ x1 ∧ x1 < 8) ∧ Q (some (vI (gi h 4 x1))) h) ∧ (¬(x2 = 1) → (x2 = 2 → (0 ≤ x1 ∧ x1 < 8) ∧ Q (some (vI (gi h 5 x1))) h) ∧ (¬(x2 = 2) → (x2 = 3 → (0 ≤ x1 ∧ x1 < 8) ∧ Q (some (vI (gi h 6 x1))) h) ∧ (¬(x2 = 3) → (x2 = 4 → (0 ≤ x1 ∧ x1 < 8) ∧ Q (some (vI (gi h 7 x1))) h) ∧ (¬(x2 = 4) → (x2 = 5 → (0 ≤ x1 ∧ x1 < 8) ∧ Q (some (vI (gi h 8 x1))) h) ∧ (¬(x2 = 5) → (x2 = 6 → (0 ≤ x1 ∧ x1 < 8) ∧ Q (some (vI (gi h 9 x1))) h) ∧ (¬(x2 = 6) → (x2 = 7 → ((0 : Int) ≤ x1 ∧ (x1 : Int) < 8) ∧ (gi h 7 x1 = -1 ∧ gi h 8 x1 = -1 → Q (some (vI 1)) h) ∧ (¬(gi h 7 x1 = -1 ∧ gi h 8 x1 = -1) → Q (some (vI 0)) h)) ∧ (¬(x2 = 7) → (x2 = 8 → WM GX (d + 3) 0 mX1_isBarred [vR (some 38), vR (some 1), vI x1] h (fun r h1 => ∃ u9, r = some (vI u9) ∧ (u9 = 0 → Q (some (vI 0)) h1) ∧ (¬(u9 = 0) → Q (some (vI 1)) h1))) ∧ (¬(x2 = 8) → Q (some (vI (-1))) h)))))))))) ∧ (¬((0 : Int) ≤ x1 ∧ x1 < gi h 1 2) → Q (some (vI (-1))) h)) : WM GX (d + 4) b mX7_of [vR (some 0), vI x1, vI x2] h Q := by
  refine WM_introE (loc' := [some (vR (some 0)), some (vI x1), some (vI x2)]) rfl (by decide) (Nat.le_of_ble_eq_true rfl) ?_
  refine J_rgl (i := 1) rfl (fun r1 => ?_)
  replace K := K r1
  refine J_rgl (i := 2) rfl (fun r2 => ?_)
  replace K := K r2
  refine J_aload_n rfl dX7_of_0 ?_
  refine J_getS (r := 1) fl_RX7_10 rfl (Or.inl rfl) rfl dX7_of_1 ?_
  refine J_iload_n rfl dX7_of_4 ?_
  refine J_b0 (J_callV (b1 := 0) (ci := 0) (vs := [vI x1]) (rest := []) (Or.inr rfl) ml_RX7_138 rfl (by decide) rfl rfl (Or.inl rfl) (Nat.le_of_ble_eq_true rfl) rfl dX7_of_5 (c_X0_isDoor (by decide)  ?_))
  show J _ _ _ _ _ _ _ [vI (b2i ((0 : Int) ≤ x1 ∧ x1 < gi h 1 2))] _
  refine J_if_ne (tgt := 13) dX7_of_8 (by decide) (fun c => ?_) (fun c => ?_)
  · replace K := K.1 (b2i_n0.mp c)
    refine J_iload_n rfl dX7_of_13 ?_
    by_cases c : x2 = 0
    · replace K := K.1 c
      refine J_tsIn (tgt := 64) 0 c (by decide) (by decide) rfl dX7_of_14 (by decide) ?_
      refine J_aload_n rfl dX7_of_64 ?_
      refine J_getS (r := 1) fl_RX7_10 rfl (Or.inl rfl) rfl dX7_of_65 ?_
      refine J_getS (r := 3) fl_RX7_114 rfl (Or.inl rfl) rfl dX7_of_68 ?_
      refine J_iload_n rfl dX7_of_71 ?_
      refine J_iaload (Or.inl rfl) K.1 dX7_of_72 ?_
      replace K := K.2
      exact J_ireturn rfl dX7_of_73 K
    replace K := K.2 c
    have cc1 := c
    clear c
    by_cases c : x2 = 1
    · replace K := K.1 c
      refine J_tsIn (tgt := 74) 1 c (by decide) (by decide) rfl dX7_of_14 (by decide) ?_
      refine J_aload_n rfl dX7_of_74 ?_
      refine J_getS (r := 1) fl_RX7_10 rfl (Or.inl rfl) rfl dX7_of_75 ?_
      refine J_getS (r := 4) fl_RX7_117 rfl (Or.inl rfl) rfl dX7_of_78 ?_
      refine J_iload_n rfl dX7_of_81 ?_
      refine J_iaload (Or.inl rfl) K.1 dX7_of_82 ?_
      replace K := K.2
      exact J_ireturn rfl dX7_of_83 K
    replace K := K.2 c
    have cc2 := c
    clear c
    by_cases c : x2 = 2
    · replace K := K.1 c
      refine J_tsIn (tgt := 84) 2 c (by decide) (by decide) rfl dX7_of_14 (by decide) ?_
      refine J_aload_n rfl dX7_of_84 ?_
      refine J_getS (r := 1) fl_RX7_10 rfl (Or.inl rfl) rfl dX7_of_85 ?_
      refine J_getS (r := 5) fl_RX7_120 rfl (Or.inl rfl) rfl dX7_of_88 ?_
      refine J_iload_n rfl dX7_of_91 ?_
      refine J_iaload (Or.inl rfl) K.1 dX7_of_92 ?_
      replace K := K.2
      exact J_ireturn rfl dX7_of_93 K
    replace K := K.2 c
    have cc3 := c
    clear c
    by_cases c : x2 = 3
    · replace K := K.1 c
      refine J_tsIn (tgt := 94) 3 c (by decide) (by decide) rfl dX7_of_14 (by decide) ?_
      refine J_aload_n rfl dX7_of_94 ?_
      refine J_getS (r := 1) fl_RX7_10 rfl (Or.inl rfl) rfl dX7_of_95 ?_
      refine J_getS (r := 6) fl_RX7_123 rfl (Or.inl rfl) rfl dX7_of_98 ?_
      refine J_iload_n rfl dX7_of_101 ?_
      refine J_iaload (Or.inl rfl) K.1 dX7_of_102 ?_
      replace K := K.2
      exact J_ireturn rfl dX7_of_103 K
    replace K := K.2 c
    have cc4 := c
    clear c
    by_cases c : x2 = 4
    · replace K := K.1 c
      refine J_tsIn (tgt := 104) 4 c (by decide) (by decide) rfl dX7_of_14 (by decide) ?_
      refine J_aload_n rfl dX7_of_104 ?_
      refine J_getS (r := 1) fl_RX7_10 rfl (Or.inl rfl) rfl dX7_of_105 ?_
      refine J_getS (r := 7) fl_RX7_126 rfl (Or.inl rfl) rfl dX7_of_108 ?_
      refine J_iload_n rfl dX7_of_111 ?_
      refine J_iaload (Or.inl rfl) K.1 dX7_of_112 ?_
      replace K := K.2
      exact J_ireturn rfl dX7_of_113 K
    replace K := K.2 c
    have cc5 := c
    clear c
    by_cases c : x2 = 5
    · replace K := K.1 c
      refine J_tsIn (tgt := 114) 5 c (by decide) (by decide) rfl dX7_of_14 (by decide) ?_
      refine J_aload_n rfl dX7_of_114 ?_
      refine J_getS (r := 1) fl_RX7_10 rfl (Or.inl rfl) rfl dX7_of_115 ?_
      refine J_getS (r := 8) fl_RX7_129 rfl (Or.inl rfl) rfl dX7_of_118 ?_
      refine J_iload_n rfl dX7_of_121 ?_
      refine J_iaload (Or.inl rfl) K.1 dX7_of_122 ?_
      replace K := K.2
      exact J_ireturn rfl dX7_of_123 K
    replace K := K.2 c
    have cc6 := c
    clear c
    by_cases c : x2 = 6
    · replace K := K.1 c
      refine J_tsIn (tgt := 124) 6 c (by decide) (by decide) rfl dX7_of_14 (by decide) ?_
      refine J_aload_n rfl dX7_of_124 ?_
      refine J_getS (r := 1) fl_RX7_10 rfl (Or.inl rfl) rfl dX7_of_125 ?_
      refine J_getS (r := 9) fl_RX7_132 rfl (Or.inl rfl) rfl dX7_of_128 ?_
      refine J_iload_n rfl dX7_of_131 ?_
      refine J_iaload (Or.inl rfl) K.1 dX7_of_132 ?_
      replace K := K.2
      exact J_ireturn rfl dX7_of_133 K
    replace K := K.2 c
    have cc7 := c
    clear c
    by_cases c : x2 = 7
    · replace K := K.1 c
      refine J_tsIn (tgt := 134) 7 c (by decide) (by decide) rfl dX7_of_14 (by decide) ?_
      refine J_aload_n rfl dX7_of_134 ?_
      refine J_getS (r := 1) fl_RX7_10 rfl (Or.inl rfl) rfl dX7_of_135 ?_
      refine J_iload_n rfl dX7_of_138 ?_
      refine J_b0 (J_callV (b1 := 0) (ci := 0) (vs := [vI x1]) (rest := []) (Or.inr rfl) ml_RX7_141 rfl (by decide) rfl rfl (Or.inl rfl) (Nat.le_of_ble_eq_true rfl) rfl dX7_of_139 (c_X0_isLost (by decide) K.1 ?_))
      replace K := K.2
      show J _ _ _ _ _ _ _ [vI (b2i (gi h 7 x1 = -1 ∧ gi h 8 x1 = -1))] _
      refine J_if_eq (tgt := 149) dX7_of_142 (by decide) (fun c => ?_) (fun c => ?_)
      · replace K := K.2 (b2i_0.mp c)
        refine J_iconst (by decide) dX7_of_149 ?_
        exact J_ireturn rfl dX7_of_150 K
      · replace K := K.1 (b2i_n0.mp c)
        refine J_iconst (by decide) dX7_of_145 ?_
        refine J_goto (tgt := 150) dX7_of_146 (by decide) ?_
        exact J_ireturn rfl dX7_of_150 K
    replace K := K.2 c
    have cc8 := c
    clear c
    by_cases c : x2 = 8
    · replace K := K.1 c
      refine J_tsIn (tgt := 151) 8 c (by decide) (by decide) rfl dX7_of_14 (by decide) ?_
      refine J_aload_n rfl dX7_of_151 ?_
      refine J_getS (r := 38) fl_RX7_50 rfl (Or.inl rfl) rfl dX7_of_152 ?_
      refine J_aload_n rfl dX7_of_155 ?_
      refine J_getS (r := 1) fl_RX7_10 rfl (Or.inl rfl) rfl dX7_of_156 ?_
      refine J_iload_n rfl dX7_of_159 ?_
      refine J_b0 (J_callV (b1 := 0) (ci := 1) (vs := [vR (some 1), vI x1]) (rest := []) (Or.inr rfl) ml_RX7_144 rfl (by decide) rfl rfl (Or.inl rfl) (Nat.le_of_ble_eq_true rfl) rfl dX7_of_160 (WM_mono K (fun r h1 K => ?_)))
      obtain ⟨u9, rfl, K⟩ := K
      show J _ _ _ _ _ _ _ [vI u9] _
      refine J_if_eq (tgt := 170) dX7_of_163 (by decide) (fun c => ?_) (fun c => ?_)
      · replace K := K.1 c
        refine J_iconst (by decide) dX7_of_170 ?_
        exact J_ireturn rfl dX7_of_171 K
      · replace K := K.2 c
        refine J_iconst (by decide) dX7_of_166 ?_
        refine J_goto (tgt := 171) dX7_of_167 (by decide) ?_
        exact J_ireturn rfl dX7_of_171 K
    replace K := K.2 c
    have cc10 := c
    clear c
    refine J_tsOut (tgt := 172) (by omega) dX7_of_14 (by decide) ?_
    refine J_iconst (by decide) dX7_of_172 ?_
    exact J_ireturn rfl dX7_of_173 K
  · replace K := K.2 (b2i_0.mp c)
    refine J_iconst (by decide) dX7_of_11 ?_
    exact J_ireturn rfl dX7_of_12 K
set_option maxRecDepth 20000 in
set_option maxHeartbeats 2000000 in
theorem w_X8_of {d b : Nat} {Q : Option AV → AH → Prop} {h : AH} {x1 : Int} {x2 : Int}  (K : R32 x1 → R32 x2 → ∀ h1, h1 = si h 0 0 0 → (0 ≤ gi h1 2 1 ∧ gi h1 2 1 ≤ 8) ∧ ((0 : Int) ≤ x1 ∧ x1 < gi h1 2 1 → (x2 = 0 → R32 (72 + x1) ∧ (0 ≤ 72 + x1 ∧ 72 + x1 < 5540) ∧ Q (some (vI (gi h 2 (72 + x1)))) h1) ∧ (¬(x2 = 0) → (x2 = 1 → R32 (80 + x1) ∧ (0 ≤ 80 + x1 ∧ 80 + x1 < 5540) ∧ Q (some (vI (gi h 2 (80 + x1)))) h1) ∧ (¬(x2 = 1) → (x2 = 2 → R32 (88 + x1) ∧ (0 ≤ 88 + x1 ∧ 88 + x1 < 5540) ∧ Q (some (vI (gi h 2 (88 + x1)))) h1) ∧ (¬(x2 = 2) → (x2 = 3 → R32 (96 + x1) ∧ (0 ≤ 96 + x1 ∧ 96 + x1 < 5540) ∧ Q (some (vI (gi h 2 (96 + x1)))) h1) ∧ (¬(x2 = 3) → (x2 = 4 → R32 (7 + x1) ∧ (0 ≤ 7 + x1 ∧ 7 + x1 < 5540) ∧ Q (some (vI (gi h 2 (7 + x1)))) h1) ∧ (¬(x2 = 4) → (x2 = 5 → R32 (15 + x1) ∧ (0 ≤ 15 + x1 ∧ 15 + x1 < 5540) ∧ Q (some (vI (gi h 2 (15 + x1)))) h1) ∧ (¬(x2 = 5) → (x2 = 6 → R32 (23 + x1) ∧ (0 ≤ 23 + x1 ∧ 23 + x1 < 5540) ∧ Q (some (vI (gi h 2 (23 + x1)))) h1) ∧ (¬(x2 = 6) → (x2 = 7 → R32 (31 + x1) ∧ (0 ≤ 31 + x1 ∧ 31 + x1 < 5540) ∧ Q (some (vI (gi h 2 (31 + x1)))) h1) ∧ (¬(x2 = 7) → (x2 = 8 → R32 (7 + x1) ∧ (0 ≤ 7 + x1 ∧ 7 + x1 < 5540) ∧ (gi h 2 (7 + x1) = (-1) → Q (some (vI 0)) h1) ∧ (¬(gi h 2 (7 + x1) = (-1)) → WM GM (d + 5) 0 mX8_isBarred [vR (some 0), vI x1] h1 (fun r h2 => ∃ u9, r = some (vI u9) ∧ (u9 = 0 → Q (some (vI 0)) h2) ∧ (¬(u9 = 0) → Q (some (vI 1)) h2)))) ∧ (¬(x2 = 8) → Q (some (vI (-1))) h1)))))))))) ∧ (¬((0 : Int) ≤ x1 ∧ x1 < gi h1 2 1) → Q (some (vI (-1))) h1)) : WM GM (d + 6) b mX8_of [vR (some 0), vI x1, vI x2] h Q := by
  refine WM_introE (loc' := [some (vR (some 0)), some (vI x1), some (vI x2)]) rfl (by decide) (Nat.le_of_ble_eq_true rfl) ?_
  refine J_rgl (i := 1) rfl (fun r1 => ?_)
  replace K := K r1
  refine J_rgl (i := 2) rfl (fun r2 => ?_)
  replace K := K r2
  refine J_aload_n rfl dX8_of_0 ?_
  refine J_iconst (by decide) dX8_of_1 ?_
  refine J_putI fl_RX8_161 rfl (Or.inl rfl) dX8_of_2 ?_
  replace K := K _ rfl
  refine J_aload_n rfl dX8_of_5 ?_
  refine J_iload_n rfl dX8_of_6 ?_
  refine J_b0 (J_callV (b1 := 0) (ci := 8) (vs := [vI x1]) (rest := []) (Or.inl rfl) ml_RX8_203 rfl (by decide) rfl rfl (Or.inl rfl) (Nat.le_of_ble_eq_true rfl) rfl dX8_of_7 (c_X8_isDoor  K.1 ?_))
  replace K := K.2
  show J _ _ _ _ _ _ _ [vI _] _
  refine J_if_ne (tgt := 15) dX8_of_10 (by decide) (fun c => ?_) (fun c => ?_)
  · replace K := K.1 (b2i_n0.mp c)
    refine J_iload_n rfl dX8_of_15 ?_
    by_cases c : x2 = 0
    · replace K := K.1 c
      refine J_tsIn (tgt := 68) 0 c (by decide) (by decide) rfl dX8_of_16 (by decide) ?_
      refine J_aload_n rfl dX8_of_68 ?_
      refine J_getS (r := 2) fl_RX8_13 rfl (Or.inl rfl) rfl dX8_of_69 ?_
      refine J_bipush (by decide) (by decide) dX8_of_72 ?_
      refine J_iload_n rfl dX8_of_74 ?_
      refine J_iadd K.1 dX8_of_75 ?_
      replace K := K.2
      refine J_ialoade (Or.inl rfl) K.1 (gi_no (by decide)) dX8_of_76 ?_
      replace K := K.2
      exact J_ireturn rfl dX8_of_77 K
    replace K := K.2 c
    have cc1 := c
    clear c
    by_cases c : x2 = 1
    · replace K := K.1 c
      refine J_tsIn (tgt := 78) 1 c (by decide) (by decide) rfl dX8_of_16 (by decide) ?_
      refine J_aload_n rfl dX8_of_78 ?_
      refine J_getS (r := 2) fl_RX8_13 rfl (Or.inl rfl) rfl dX8_of_79 ?_
      refine J_bipush (by decide) (by decide) dX8_of_82 ?_
      refine J_iload_n rfl dX8_of_84 ?_
      refine J_iadd K.1 dX8_of_85 ?_
      replace K := K.2
      refine J_ialoade (Or.inl rfl) K.1 (gi_no (by decide)) dX8_of_86 ?_
      replace K := K.2
      exact J_ireturn rfl dX8_of_87 K
    replace K := K.2 c
    have cc2 := c
    clear c
    by_cases c : x2 = 2
    · replace K := K.1 c
      refine J_tsIn (tgt := 88) 2 c (by decide) (by decide) rfl dX8_of_16 (by decide) ?_
      refine J_aload_n rfl dX8_of_88 ?_
      refine J_getS (r := 2) fl_RX8_13 rfl (Or.inl rfl) rfl dX8_of_89 ?_
      refine J_bipush (by decide) (by decide) dX8_of_92 ?_
      refine J_iload_n rfl dX8_of_94 ?_
      refine J_iadd K.1 dX8_of_95 ?_
      replace K := K.2
      refine J_ialoade (Or.inl rfl) K.1 (gi_no (by decide)) dX8_of_96 ?_
      replace K := K.2
      exact J_ireturn rfl dX8_of_97 K
    replace K := K.2 c
    have cc3 := c
    clear c
    by_cases c : x2 = 3
    · replace K := K.1 c
      refine J_tsIn (tgt := 98) 3 c (by decide) (by decide) rfl dX8_of_16 (by decide) ?_
      refine J_aload_n rfl dX8_of_98 ?_
      refine J_getS (r := 2) fl_RX8_13 rfl (Or.inl rfl) rfl dX8_of_99 ?_
      refine J_bipush (by decide) (by decide) dX8_of_102 ?_
      refine J_iload_n rfl dX8_of_104 ?_
      refine J_iadd K.1 dX8_of_105 ?_
      replace K := K.2
      refine J_ialoade (Or.inl rfl) K.1 (gi_no (by decide)) dX8_of_106 ?_
      replace K := K.2
      exact J_ireturn rfl dX8_of_107 K
    replace K := K.2 c
    have cc4 := c
    clear c
    by_cases c : x2 = 4
    · replace K := K.1 c
      refine J_tsIn (tgt := 108) 4 c (by decide) (by decide) rfl dX8_of_16 (by decide) ?_
      refine J_aload_n rfl dX8_of_108 ?_
      refine J_getS (r := 2) fl_RX8_13 rfl (Or.inl rfl) rfl dX8_of_109 ?_
      refine J_bipush (by decide) (by decide) dX8_of_112 ?_
      refine J_iload_n rfl dX8_of_114 ?_
      refine J_iadd K.1 dX8_of_115 ?_
      replace K := K.2
      refine J_ialoade (Or.inl rfl) K.1 (gi_no (by decide)) dX8_of_116 ?_
      replace K := K.2
      exact J_ireturn rfl dX8_of_117 K
    replace K := K.2 c
    have cc5 := c
    clear c
    by_cases c : x2 = 5
    · replace K := K.1 c
      refine J_tsIn (tgt := 118) 5 c (by decide) (by decide) rfl dX8_of_16 (by decide) ?_
      refine J_aload_n rfl dX8_of_118 ?_
      refine J_getS (r := 2) fl_RX8_13 rfl (Or.inl rfl) rfl dX8_of_119 ?_
      refine J_bipush (by decide) (by decide) dX8_of_122 ?_
      refine J_iload_n rfl dX8_of_124 ?_
      refine J_iadd K.1 dX8_of_125 ?_
      replace K := K.2
      refine J_ialoade (Or.inl rfl) K.1 (gi_no (by decide)) dX8_of_126 ?_
      replace K := K.2
      exact J_ireturn rfl dX8_of_127 K
    replace K := K.2 c
    have cc6 := c
    clear c
    by_cases c : x2 = 6
    · replace K := K.1 c
      refine J_tsIn (tgt := 128) 6 c (by decide) (by decide) rfl dX8_of_16 (by decide) ?_
      refine J_aload_n rfl dX8_of_128 ?_
      refine J_getS (r := 2) fl_RX8_13 rfl (Or.inl rfl) rfl dX8_of_129 ?_
      refine J_bipush (by decide) (by decide) dX8_of_132 ?_
      refine J_iload_n rfl dX8_of_134 ?_
      refine J_iadd K.1 dX8_of_135 ?_
      replace K := K.2
      refine J_ialoade (Or.inl rfl) K.1 (gi_no (by decide)) dX8_of_136 ?_
      replace K := K.2
      exact J_ireturn rfl dX8_of_137 K
    replace K := K.2 c
    have cc7 := c
    clear c
    by_cases c : x2 = 7
    · replace K := K.1 c
      refine J_tsIn (tgt := 138) 7 c (by decide) (by decide) rfl dX8_of_16 (by decide) ?_
      refine J_aload_n rfl dX8_of_138 ?_
      refine J_getS (r := 2) fl_RX8_13 rfl (Or.inl rfl) rfl dX8_of_139 ?_
      refine J_bipush (by decide) (by decide) dX8_of_142 ?_
      refine J_iload_n rfl dX8_of_144 ?_
      refine J_iadd K.1 dX8_of_145 ?_
      replace K := K.2
      refine J_ialoade (Or.inl rfl) K.1 (gi_no (by decide)) dX8_of_146 ?_
      replace K := K.2
      exact J_ireturn rfl dX8_of_147 K
    replace K := K.2 c
    have cc8 := c
    clear c
    by_cases c : x2 = 8
    · replace K := K.1 c
      refine J_tsIn (tgt := 148) 8 c (by decide) (by decide) rfl dX8_of_16 (by decide) ?_
      refine J_aload_n rfl dX8_of_148 ?_
      refine J_getS (r := 2) fl_RX8_13 rfl (Or.inl rfl) rfl dX8_of_149 ?_
      refine J_bipush (by decide) (by decide) dX8_of_152 ?_
      refine J_iload_n rfl dX8_of_154 ?_
      refine J_iadd K.1 dX8_of_155 ?_
      replace K := K.2
      refine J_ialoade (Or.inl rfl) K.1 (gi_no (by decide)) dX8_of_156 ?_
      replace K := K.2
      refine J_iconst (by decide) dX8_of_157 ?_
      refine J_icmp_eq (tgt := 173) dX8_of_158 (by decide) (fun c => ?_) (fun c => ?_)
      · replace K := K.1 c
        refine J_iconst (by decide) dX8_of_173 ?_
        exact J_ireturn rfl dX8_of_174 K
      · replace K := K.2 c
        refine J_aload_n rfl dX8_of_161 ?_
        refine J_iload_n rfl dX8_of_162 ?_
        refine J_b0 (J_callV (b1 := 0) (ci := 8) (vs := [vI x1]) (rest := []) (Or.inl rfl) ml_RX8_206 rfl (by decide) rfl rfl (Or.inl rfl) (Nat.le_of_ble_eq_true rfl) rfl dX8_of_163 (WM_mono K (fun r h2 K => ?_)))
        obtain ⟨u9, rfl, K⟩ := K
        show J _ _ _ _ _ _ _ [vI u9] _
        refine J_if_eq (tgt := 173) dX8_of_166 (by decide) (fun c => ?_) (fun c => ?_)
        · replace K := K.1 c
          refine J_iconst (by decide) dX8_of_173 ?_
          exact J_ireturn rfl dX8_of_174 K
        · replace K := K.2 c
          refine J_iconst (by decide) dX8_of_169 ?_
          refine J_goto (tgt := 174) dX8_of_170 (by decide) ?_
          exact J_ireturn rfl dX8_of_174 K
    replace K := K.2 c
    have cc10 := c
    clear c
    refine J_tsOut (tgt := 175) (by omega) dX8_of_16 (by decide) ?_
    refine J_iconst (by decide) dX8_of_175 ?_
    exact J_ireturn rfl dX8_of_176 K
  · replace K := K.2 (b2i_0.mp c)
    refine J_iconst (by decide) dX8_of_13 ?_
    exact J_ireturn rfl dX8_of_14 K
set_option maxRecDepth 20000 in
set_option maxHeartbeats 2000000 in
theorem w_X7_frame {d b : Nat} {Q : Option AV → AH → Prop} {h : AH} {x1 : Int} {x2 : Int}  (K : R32 x1 → R32 x2 → ((0 : Int) ≤ x1 ∧ x1 < gi h 1 0 → (x2 = 0 → (0 ≤ x1 ∧ x1 < 8) ∧ Q (some (vI (gi h 2 x1))) h) ∧ (¬(x2 = 0) → (x2 = 1 → (0 ≤ gi h 1 2 ∧ gi h 1 2 ≤ 8) ∧ Q (some (vI (dIn (gi h 7) x1 (gi h 1 2).toNat 0))) h) ∧ (¬(x2 = 1) → (x2 < 2 → Q (some (vI (-1))) h) ∧ (¬(x2 < 2) → R32 (x2 - 2) ∧ ((0 : Int) ≤ (x2 - 2) ∧ (x2 - 2) < gi h 1 2 → R32 (x2 - 2) ∧ WM GX (d + 3) 0 mX1_isFitting [vR (some 38), vR (some 1), vI (x2 - 2), vI x1] h (fun r h1 => ∃ u1, r = some (vI u1) ∧ (u1 = 0 → Q (some (vI 0)) h1) ∧ (¬(u1 = 0) → Q (some (vI 1)) h1))) ∧ (¬((0 : Int) ≤ (x2 - 2) ∧ (x2 - 2) < gi h 1 2) → Q (some (vI (-1))) h))))) ∧ (¬((0 : Int) ≤ x1 ∧ x1 < gi h 1 0) → Q (some (vI (-1))) h)) : WM GX (d + 4) b mX7_frame [vR (some 0), vI x1, vI x2] h Q := by
  refine WM_introE (loc' := [some (vR (some 0)), some (vI x1), some (vI x2)]) rfl (by decide) (Nat.le_of_ble_eq_true rfl) ?_
  refine J_rgl (i := 1) rfl (fun r1 => ?_)
  replace K := K r1
  refine J_rgl (i := 2) rfl (fun r2 => ?_)
  replace K := K r2
  refine J_aload_n rfl dX7_frame_0 ?_
  refine J_getS (r := 1) fl_RX7_10 rfl (Or.inl rfl) rfl dX7_frame_1 ?_
  refine J_iload_n rfl dX7_frame_4 ?_
  refine J_b0 (J_callV (b1 := 0) (ci := 0) (vs := [vI x1]) (rest := []) (Or.inr rfl) ml_RX7_105 rfl (by decide) rfl rfl (Or.inl rfl) (Nat.le_of_ble_eq_true rfl) rfl dX7_frame_5 (c_X0_isHouse (by decide)  ?_))
  show J _ _ _ _ _ _ _ [vI (b2i ((0 : Int) ≤ x1 ∧ x1 < gi h 1 0))] _
  refine J_if_ne (tgt := 13) dX7_frame_8 (by decide) (fun c => ?_) (fun c => ?_)
  · replace K := K.1 (b2i_n0.mp c)
    refine J_iload_n rfl dX7_frame_13 ?_
    refine J_if_ne (tgt := 27) dX7_frame_14 (by decide) (fun c => ?_) (fun c => ?_)
    · replace K := K.2 c
      refine J_iload_n rfl dX7_frame_27 ?_
      refine J_iconst (by decide) dX7_frame_28 ?_
      refine J_icmp_ne (tgt := 41) dX7_frame_29 (by decide) (fun c => ?_) (fun c => ?_)
      · replace K := K.2 c
        refine J_iload_n rfl dX7_frame_41 ?_
        refine J_iconst (by decide) dX7_frame_42 ?_
        refine J_icmp_lt (tgt := 59) dX7_frame_43 (by decide) (fun c => ?_) (fun c => ?_)
        · replace K := K.1 c
          refine J_iconst (by decide) dX7_frame_59 ?_
          exact J_ireturn rfl dX7_frame_60 K
        · replace K := K.2 c
          refine J_aload_n rfl dX7_frame_46 ?_
          refine J_getS (r := 1) fl_RX7_10 rfl (Or.inl rfl) rfl dX7_frame_47 ?_
          refine J_iload_n rfl dX7_frame_50 ?_
          refine J_iconst (by decide) dX7_frame_51 ?_
          refine J_isub K.1 dX7_frame_52 ?_
          replace K := K.2
          refine J_b0 (J_callV (b1 := 0) (ci := 0) (vs := [vI (x2 - 2)]) (rest := []) (Or.inr rfl) ml_RX7_138 rfl (by decide) rfl rfl (Or.inl rfl) (Nat.le_of_ble_eq_true rfl) rfl dX7_frame_53 (c_X0_isDoor (by decide)  ?_))
          show J _ _ _ _ _ _ _ [vI (b2i ((0 : Int) ≤ (x2 - 2) ∧ (x2 - 2) < gi h 1 2))] _
          refine J_if_ne (tgt := 61) dX7_frame_56 (by decide) (fun c => ?_) (fun c => ?_)
          · replace K := K.1 (b2i_n0.mp c)
            refine J_aload_n rfl dX7_frame_61 ?_
            refine J_getS (r := 38) fl_RX7_50 rfl (Or.inl rfl) rfl dX7_frame_62 ?_
            refine J_aload_n rfl dX7_frame_65 ?_
            refine J_getS (r := 1) fl_RX7_10 rfl (Or.inl rfl) rfl dX7_frame_66 ?_
            refine J_iload_n rfl dX7_frame_69 ?_
            refine J_iconst (by decide) dX7_frame_70 ?_
            refine J_isub K.1 dX7_frame_71 ?_
            replace K := K.2
            refine J_iload_n rfl dX7_frame_72 ?_
            refine J_b0 (J_callV (b1 := 0) (ci := 1) (vs := [vR (some 1), vI (x2 - 2), vI x1]) (rest := []) (Or.inr rfl) ml_RX7_148 rfl (by decide) rfl rfl (Or.inl rfl) (Nat.le_of_ble_eq_true rfl) rfl dX7_frame_73 (WM_mono K (fun r h1 K => ?_)))
            obtain ⟨u1, rfl, K⟩ := K
            show J _ _ _ _ _ _ _ [vI u1] _
            refine J_if_eq (tgt := 83) dX7_frame_76 (by decide) (fun c => ?_) (fun c => ?_)
            · replace K := K.1 c
              refine J_iconst (by decide) dX7_frame_83 ?_
              exact J_ireturn rfl dX7_frame_84 K
            · replace K := K.2 c
              refine J_iconst (by decide) dX7_frame_79 ?_
              refine J_goto (tgt := 84) dX7_frame_80 (by decide) ?_
              exact J_ireturn rfl dX7_frame_84 K
          · replace K := K.2 (b2i_0.mp c)
            refine J_iconst (by decide) dX7_frame_59 ?_
            exact J_ireturn rfl dX7_frame_60 K
      · replace K := K.1 c
        refine J_aload_n rfl dX7_frame_32 ?_
        refine J_getS (r := 1) fl_RX7_10 rfl (Or.inl rfl) rfl dX7_frame_33 ?_
        refine J_iload_n rfl dX7_frame_36 ?_
        refine J_b0 (J_callV (b1 := 0) (ci := 0) (vs := [vI x1]) (rest := []) (Or.inr rfl) ml_RX7_108 rfl (by decide) rfl rfl (Or.inl rfl) (Nat.le_of_ble_eq_true rfl) rfl dX7_frame_37 (c_X0_doorIn (by decide) K.1 ?_))
        replace K := K.2
        show J _ _ _ _ _ _ _ [vI (dIn (gi h 7) x1 (gi h 1 2).toNat 0)] _
        exact J_ireturn rfl dX7_frame_40 K
    · replace K := K.1 c
      refine J_aload_n rfl dX7_frame_17 ?_
      refine J_getS (r := 1) fl_RX7_10 rfl (Or.inl rfl) rfl dX7_frame_18 ?_
      refine J_getS (r := 2) fl_RX7_95 rfl (Or.inl rfl) rfl dX7_frame_21 ?_
      refine J_iload_n rfl dX7_frame_24 ?_
      refine J_iaload (Or.inl rfl) K.1 dX7_frame_25 ?_
      replace K := K.2
      exact J_ireturn rfl dX7_frame_26 K
  · replace K := K.2 (b2i_0.mp c)
    refine J_iconst (by decide) dX7_frame_11 ?_
    exact J_ireturn rfl dX7_frame_12 K
set_option maxRecDepth 20000 in
set_option maxHeartbeats 2000000 in
theorem w_X8_frame {d b : Nat} {Q : Option AV → AH → Prop} {h : AH} {x1 : Int} {x2 : Int}  (K : R32 x1 → R32 x2 → ∀ h1, h1 = si h 0 0 0 → (0 ≤ gi h1 2 0 ∧ gi h1 2 0 ≤ 8) ∧ ((0 : Int) ≤ x1 ∧ x1 < gi h1 2 0 → R64 (1 + (gi h 2 1)) ∧ (0 ≤ x2 ∧ x2 ≤ (1 + (gi h 2 1)) → (x2 = 0 → R32 (64 + x1) ∧ (0 ≤ 64 + x1 ∧ 64 + x1 < 5540) ∧ Q (some (vI (gi h 2 (64 + x1)))) h1) ∧ (¬(x2 = 0) → (x2 = 1 → (InvR (gi h1 2)) ∧ ((0 : Int) ≤ x1) ∧ Q (some (vI (dOf (gi h1 2) x1))) h1) ∧ (¬(x2 = 1) → R32 (x2 - 2) ∧ WM GM (d + 5) 0 mX8_fits [vR (some 0), vI (x2 - 2), vI x1] h1 (fun r h2 => ∃ u1, r = some (vI u1) ∧ (u1 = 0 → Q (some (vI 0)) h2) ∧ (¬(u1 = 0) → Q (some (vI 1)) h2))))) ∧ (¬(0 ≤ x2 ∧ x2 ≤ (1 + (gi h 2 1))) → Q (some (vI (-1))) h1)) ∧ (¬((0 : Int) ≤ x1 ∧ x1 < gi h1 2 0) → Q (some (vI (-1))) h1)) : WM GM (d + 6) b mX8_frame [vR (some 0), vI x1, vI x2] h Q := by
  refine WM_introE (loc' := [some (vR (some 0)), some (vI x1), some (vI x2)]) rfl (by decide) (Nat.le_of_ble_eq_true rfl) ?_
  refine J_rgl (i := 1) rfl (fun r1 => ?_)
  replace K := K r1
  refine J_rgl (i := 2) rfl (fun r2 => ?_)
  replace K := K r2
  refine J_aload_n rfl dX8_frame_0 ?_
  refine J_iconst (by decide) dX8_frame_1 ?_
  refine J_putI fl_RX8_161 rfl (Or.inl rfl) dX8_frame_2 ?_
  replace K := K _ rfl
  refine J_aload_n rfl dX8_frame_5 ?_
  refine J_iload_n rfl dX8_frame_6 ?_
  refine J_b0 (J_callV (b1 := 0) (ci := 8) (vs := [vI x1]) (rest := []) (Or.inl rfl) ml_RX8_196 rfl (by decide) rfl rfl (Or.inl rfl) (Nat.le_of_ble_eq_true rfl) rfl dX8_frame_7 (c_X8_isHouse  K.1 ?_))
  replace K := K.2
  show J _ _ _ _ _ _ _ [vI _] _
  refine J_if_eq (tgt := 31) dX8_frame_10 (by decide) (fun c => ?_) (fun c => ?_)
  · replace K := K.2 (b2i_0.mp c)
    refine J_iconst (by decide) dX8_frame_31 ?_
    exact J_ireturn rfl dX8_frame_32 K
  · replace K := K.1 (b2i_n0.mp c)
    refine J_iload_n rfl dX8_frame_13 ?_
    refine J_i2l dX8_frame_14 ?_
    refine J_lconst (x := 0) (by decide) (by decide) dX8_frame_15 ?_
    refine J_lconst (x := 1) (by decide) (by decide) dX8_frame_16 ?_
    refine J_aload_n rfl dX8_frame_17 ?_
    refine J_getS (r := 2) fl_RX8_13 rfl (Or.inl rfl) rfl dX8_frame_18 ?_
    refine J_iconst (by decide) dX8_frame_21 ?_
    refine J_ialoade (Or.inl rfl) (by decide) (gi_no (by decide)) dX8_frame_22 ?_
    refine J_i2l dX8_frame_23 ?_
    refine J_ladd K.1 dX8_frame_24 ?_
    replace K := K.2
    refine J_b0 (J_callS (b1 := 0) (vs := [vL x2, vL 0, vL (1 + (gi h 2 1))]) (rest := []) (Or.inl rfl) ml_RX8_181 rfl (by decide) (Nat.le_of_ble_eq_true rfl) rfl dX8_frame_25 (c_X8_in   ?_))
    show J _ _ _ _ _ _ _ [vI (b2i (0 ≤ x2 ∧ x2 ≤ (1 + (gi h 2 1))))] _
    refine J_if_ne (tgt := 33) dX8_frame_28 (by decide) (fun c => ?_) (fun c => ?_)
    · replace K := K.1 (b2i_n0.mp c)
      refine J_iload_n rfl dX8_frame_33 ?_
      refine J_if_ne (tgt := 49) dX8_frame_34 (by decide) (fun c => ?_) (fun c => ?_)
      · replace K := K.2 c
        refine J_iload_n rfl dX8_frame_49 ?_
        refine J_iconst (by decide) dX8_frame_50 ?_
        refine J_icmp_ne (tgt := 62) dX8_frame_51 (by decide) (fun c => ?_) (fun c => ?_)
        · replace K := K.2 c
          refine J_aload_n rfl dX8_frame_62 ?_
          refine J_iload_n rfl dX8_frame_63 ?_
          refine J_iconst (by decide) dX8_frame_64 ?_
          refine J_isub K.1 dX8_frame_65 ?_
          replace K := K.2
          refine J_iload_n rfl dX8_frame_66 ?_
          refine J_b0 (J_callV (b1 := 0) (ci := 8) (vs := [vI (x2 - 2), vI x1]) (rest := []) (Or.inl rfl) ml_RX8_209 rfl (by decide) rfl rfl (Or.inl rfl) (Nat.le_of_ble_eq_true rfl) rfl dX8_frame_67 (WM_mono K (fun r h2 K => ?_)))
          obtain ⟨u1, rfl, K⟩ := K
          show J _ _ _ _ _ _ _ [vI u1] _
          refine J_if_eq (tgt := 77) dX8_frame_70 (by decide) (fun c => ?_) (fun c => ?_)
          · replace K := K.1 c
            refine J_iconst (by decide) dX8_frame_77 ?_
            exact J_ireturn rfl dX8_frame_78 K
          · replace K := K.2 c
            refine J_iconst (by decide) dX8_frame_73 ?_
            refine J_goto (tgt := 78) dX8_frame_74 (by decide) ?_
            exact J_ireturn rfl dX8_frame_78 K
        · replace K := K.1 c
          refine J_aload_n rfl dX8_frame_54 ?_
          refine J_iload_n rfl dX8_frame_55 ?_
          refine J_b0 (J_callV (b1 := 0) (ci := 8) (vs := [vI x1]) (rest := []) (Or.inl rfl) ml_RX8_200 rfl (by decide) rfl rfl (Or.inl rfl) (Nat.le_of_ble_eq_true rfl) rfl dX8_frame_56 (c_X8_doorOf  K.1 K.2.1 ?_))
          replace K := K.2.2
          show J _ _ _ _ _ _ _ [vI _] _
          refine J_goto (tgt := 78) dX8_frame_59 (by decide) ?_
          exact J_ireturn rfl dX8_frame_78 K
      · replace K := K.1 c
        refine J_aload_n rfl dX8_frame_37 ?_
        refine J_getS (r := 2) fl_RX8_13 rfl (Or.inl rfl) rfl dX8_frame_38 ?_
        refine J_bipush (by decide) (by decide) dX8_frame_41 ?_
        refine J_iload_n rfl dX8_frame_43 ?_
        refine J_iadd K.1 dX8_frame_44 ?_
        replace K := K.2
        refine J_ialoade (Or.inl rfl) K.1 (gi_no (by decide)) dX8_frame_45 ?_
        replace K := K.2
        refine J_goto (tgt := 78) dX8_frame_46 (by decide) ?_
        exact J_ireturn rfl dX8_frame_78 K
    · replace K := K.2 (b2i_0.mp c)
      refine J_iconst (by decide) dX8_frame_31 ?_
      exact J_ireturn rfl dX8_frame_32 K
set_option maxRecDepth 20000 in
set_option maxHeartbeats 2000000 in
theorem w_X7_asks {d b : Nat} {Q : Option AV → AH → Prop} {h : AH} {x1 : Int} {x2 : Int} {x3 : Int}  (K : R32 x1 → R32 x2 → R32 x3 → ((0 : Int) ≤ x1 ∧ x1 < gi h 1 2 → ((0 : Int) ≤ x2 ∧ (x2 : Int) < 25 → (x3 = 0 → (0 ≤ x2 ∧ x2 < 25) ∧ WM GX (d + 3) 0 mX1_catchOf [vR (some 38), vR (some 1), vI x1, vI x2, vI (gi h 10 x2)] h (fun r h2 => ∃ u2, r = some (vI u2) ∧ Q (some (vI u2)) h2)) ∧ (¬(x3 = 0) → (x3 = 1 → WM GX (d + 3) 0 mX1_slamOf [vR (some 38), vR (some 1), vI x1, vI x2] h (fun r h1 => ∃ u1, r = some (vI u1) ∧ Q (some (vI u1)) h1)) ∧ (¬(x3 = 1) → Q (some (vI (-1))) h))) ∧ (¬((0 : Int) ≤ x2 ∧ (x2 : Int) < 25) → Q (some (vI (-1))) h)) ∧ (¬((0 : Int) ≤ x1 ∧ x1 < gi h 1 2) → Q (some (vI (-1))) h)) : WM GX (d + 4) b mX7_asks [vR (some 0), vI x1, vI x2, vI x3] h Q := by
  refine WM_introE (loc' := [some (vR (some 0)), some (vI x1), some (vI x2), some (vI x3)]) rfl (by decide) (Nat.le_of_ble_eq_true rfl) ?_
  refine J_rgl (i := 1) rfl (fun r1 => ?_)
  replace K := K r1
  refine J_rgl (i := 2) rfl (fun r2 => ?_)
  replace K := K r2
  refine J_rgl (i := 3) rfl (fun r3 => ?_)
  replace K := K r3
  refine J_aload_n rfl dX7_asks_0 ?_
  refine J_getS (r := 1) fl_RX7_10 rfl (Or.inl rfl) rfl dX7_asks_1 ?_
  refine J_iload_n rfl dX7_asks_4 ?_
  refine J_b0 (J_callV (b1 := 0) (ci := 0) (vs := [vI x1]) (rest := []) (Or.inr rfl) ml_RX7_138 rfl (by decide) rfl rfl (Or.inl rfl) (Nat.le_of_ble_eq_true rfl) rfl dX7_asks_5 (c_X0_isDoor (by decide)  ?_))
  show J _ _ _ _ _ _ _ [vI (b2i ((0 : Int) ≤ x1 ∧ x1 < gi h 1 2))] _
  refine J_if_eq (tgt := 18) dX7_asks_8 (by decide) (fun c => ?_) (fun c => ?_)
  · replace K := K.2 (b2i_0.mp c)
    refine J_iconst (by decide) dX7_asks_18 ?_
    exact J_ireturn rfl dX7_asks_19 K
  · replace K := K.1 (b2i_n0.mp c)
    refine J_iload_n rfl dX7_asks_11 ?_
    refine J_b0 (J_callS (b1 := 0) (vs := [vI x2]) (rest := []) (Or.inl rfl) ml_RX7_152 rfl (by decide) (Nat.le_of_ble_eq_true rfl) rfl dX7_asks_12 (c_X7_isCell   ?_))
    show J _ _ _ _ _ _ _ [vI (b2i ((0 : Int) ≤ x2 ∧ (x2 : Int) < 25))] _
    refine J_if_ne (tgt := 20) dX7_asks_15 (by decide) (fun c => ?_) (fun c => ?_)
    · replace K := K.1 (b2i_n0.mp c)
      refine J_iload_n rfl dX7_asks_20 ?_
      refine J_if_ne (tgt := 47) dX7_asks_21 (by decide) (fun c => ?_) (fun c => ?_)
      · replace K := K.2 c
        refine J_iload_n rfl dX7_asks_47 ?_
        refine J_iconst (by decide) dX7_asks_48 ?_
        refine J_icmp_ne (tgt := 66) dX7_asks_49 (by decide) (fun c => ?_) (fun c => ?_)
        · replace K := K.2 c
          refine J_iconst (by decide) dX7_asks_66 ?_
          exact J_ireturn rfl dX7_asks_67 K
        · replace K := K.1 c
          refine J_aload_n rfl dX7_asks_52 ?_
          refine J_getS (r := 38) fl_RX7_50 rfl (Or.inl rfl) rfl dX7_asks_53 ?_
          refine J_aload_n rfl dX7_asks_56 ?_
          refine J_getS (r := 1) fl_RX7_10 rfl (Or.inl rfl) rfl dX7_asks_57 ?_
          refine J_iload_n rfl dX7_asks_60 ?_
          refine J_iload_n rfl dX7_asks_61 ?_
          refine J_b0 (J_callV (b1 := 0) (ci := 1) (vs := [vR (some 1), vI x1, vI x2]) (rest := []) (Or.inr rfl) ml_RX7_165 rfl (by decide) rfl rfl (Or.inl rfl) (Nat.le_of_ble_eq_true rfl) rfl dX7_asks_62 (WM_mono K (fun r h1 K => ?_)))
          obtain ⟨u1, rfl, K⟩ := K
          show J _ _ _ _ _ _ _ [vI u1] _
          exact J_ireturn rfl dX7_asks_65 K
      · replace K := K.1 c
        refine J_aload_n rfl dX7_asks_24 ?_
        refine J_getS (r := 38) fl_RX7_50 rfl (Or.inl rfl) rfl dX7_asks_25 ?_
        refine J_aload_n rfl dX7_asks_28 ?_
        refine J_getS (r := 1) fl_RX7_10 rfl (Or.inl rfl) rfl dX7_asks_29 ?_
        refine J_iload_n rfl dX7_asks_32 ?_
        refine J_iload_n rfl dX7_asks_33 ?_
        refine J_aload_n rfl dX7_asks_34 ?_
        refine J_getS (r := 1) fl_RX7_10 rfl (Or.inl rfl) rfl dX7_asks_35 ?_
        refine J_getS (r := 10) fl_RX7_155 rfl (Or.inl rfl) rfl dX7_asks_38 ?_
        refine J_iload_n rfl dX7_asks_41 ?_
        refine J_iaload (Or.inl rfl) K.1 dX7_asks_42 ?_
        replace K := K.2
        refine J_b0 (J_callV (b1 := 0) (ci := 1) (vs := [vR (some 1), vI x1, vI x2, vI (gi h 10 x2)]) (rest := []) (Or.inr rfl) ml_RX7_161 rfl (by decide) rfl rfl (Or.inl rfl) (Nat.le_of_ble_eq_true rfl) rfl dX7_asks_43 (WM_mono K (fun r h2 K => ?_)))
        obtain ⟨u2, rfl, K⟩ := K
        show J _ _ _ _ _ _ _ [vI u2] _
        exact J_ireturn rfl dX7_asks_46 K
    · replace K := K.2 (b2i_0.mp c)
      refine J_iconst (by decide) dX7_asks_18 ?_
      exact J_ireturn rfl dX7_asks_19 K
set_option maxRecDepth 20000 in
set_option maxHeartbeats 2000000 in
theorem w_X8_asks {d b : Nat} {Q : Option AV → AH → Prop} {h : AH} {x1 : Int} {x2 : Int} {x3 : Int}  (K : R32 x1 → R32 x2 → R32 x3 → ∀ h1, h1 = si h 0 0 0 → (0 ≤ gi h1 2 1 ∧ gi h1 2 1 ≤ 8) ∧ ((0 : Int) ≤ x1 ∧ x1 < gi h1 2 1 → ((0 : Int) ≤ x2 ∧ (x2 : Int) < 25 → (0 ≤ x3 ∧ x3 ≤ 1 → (x3 = 0 → R32 (39 + x2) ∧ (0 ≤ 39 + x2 ∧ 39 + x2 < 5540) ∧ R32 (23 + x1) ∧ (0 ≤ 23 + x1 ∧ 23 + x1 < 5540) ∧ WM GM (d + 5) 0 mX8_catches [vR (some 0), vI x1, vI x2, vI (gi h 2 (39 + x2)), vI (gi h 2 (23 + x1))] h1 (fun r h3 => ∃ u2, r = some (vI u2) ∧ Q (some (vI u2)) h3)) ∧ (¬(x3 = 0) → WM GM (d + 5) 0 mX8_slams [vR (some 0), vI x1, vI x2] h1 (fun r h2 => ∃ u1, r = some (vI u1) ∧ Q (some (vI u1)) h2))) ∧ (¬(0 ≤ x3 ∧ x3 ≤ 1) → Q (some (vI (-1))) h1)) ∧ (¬((0 : Int) ≤ x2 ∧ (x2 : Int) < 25) → Q (some (vI (-1))) h1)) ∧ (¬((0 : Int) ≤ x1 ∧ x1 < gi h1 2 1) → Q (some (vI (-1))) h1)) : WM GM (d + 6) b mX8_asks [vR (some 0), vI x1, vI x2, vI x3] h Q := by
  refine WM_introE (loc' := [some (vR (some 0)), some (vI x1), some (vI x2), some (vI x3)]) rfl (by decide) (Nat.le_of_ble_eq_true rfl) ?_
  refine J_rgl (i := 1) rfl (fun r1 => ?_)
  replace K := K r1
  refine J_rgl (i := 2) rfl (fun r2 => ?_)
  replace K := K r2
  refine J_rgl (i := 3) rfl (fun r3 => ?_)
  replace K := K r3
  refine J_aload_n rfl dX8_asks_0 ?_
  refine J_iconst (by decide) dX8_asks_1 ?_
  refine J_putI fl_RX8_161 rfl (Or.inl rfl) dX8_asks_2 ?_
  replace K := K _ rfl
  refine J_aload_n rfl dX8_asks_5 ?_
  refine J_iload_n rfl dX8_asks_6 ?_
  refine J_b0 (J_callV (b1 := 0) (ci := 8) (vs := [vI x1]) (rest := []) (Or.inl rfl) ml_RX8_203 rfl (by decide) rfl rfl (Or.inl rfl) (Nat.le_of_ble_eq_true rfl) rfl dX8_asks_7 (c_X8_isDoor  K.1 ?_))
  replace K := K.2
  show J _ _ _ _ _ _ _ [vI _] _
  refine J_if_eq (tgt := 30) dX8_asks_10 (by decide) (fun c => ?_) (fun c => ?_)
  · replace K := K.2 (b2i_0.mp c)
    refine J_iconst (by decide) dX8_asks_30 ?_
    refine J_goto (tgt := 71) dX8_asks_31 (by decide) ?_
    exact J_ireturn rfl dX8_asks_71 K
  · replace K := K.1 (b2i_n0.mp c)
    refine J_iload_n rfl dX8_asks_13 ?_
    refine J_b0 (J_callS (b1 := 0) (vs := [vI x2]) (rest := []) (Or.inl rfl) ml_RX8_217 rfl (by decide) (Nat.le_of_ble_eq_true rfl) rfl dX8_asks_14 (c_X8_isCell   ?_))
    show J _ _ _ _ _ _ _ [vI (b2i ((0 : Int) ≤ x2 ∧ (x2 : Int) < 25))] _
    refine J_if_eq (tgt := 30) dX8_asks_17 (by decide) (fun c => ?_) (fun c => ?_)
    · replace K := K.2 (b2i_0.mp c)
      refine J_iconst (by decide) dX8_asks_30 ?_
      refine J_goto (tgt := 71) dX8_asks_31 (by decide) ?_
      exact J_ireturn rfl dX8_asks_71 K
    · replace K := K.1 (b2i_n0.mp c)
      refine J_iload_n rfl dX8_asks_20 ?_
      refine J_i2l dX8_asks_21 ?_
      refine J_lconst (x := 0) (by decide) (by decide) dX8_asks_22 ?_
      refine J_lconst (x := 1) (by decide) (by decide) dX8_asks_23 ?_
      refine J_b0 (J_callS (b1 := 0) (vs := [vL x3, vL 0, vL 1]) (rest := []) (Or.inl rfl) ml_RX8_181 rfl (by decide) (Nat.le_of_ble_eq_true rfl) rfl dX8_asks_24 (c_X8_in   ?_))
      show J _ _ _ _ _ _ _ [vI (b2i (0 ≤ x3 ∧ x3 ≤ 1))] _
      refine J_if_ne (tgt := 34) dX8_asks_27 (by decide) (fun c => ?_) (fun c => ?_)
      · replace K := K.1 (b2i_n0.mp c)
        refine J_iload_n rfl dX8_asks_34 ?_
        refine J_if_ne (tgt := 65) dX8_asks_35 (by decide) (fun c => ?_) (fun c => ?_)
        · replace K := K.2 c
          refine J_aload_n rfl dX8_asks_65 ?_
          refine J_iload_n rfl dX8_asks_66 ?_
          refine J_iload_n rfl dX8_asks_67 ?_
          refine J_b0 (J_callV (b1 := 0) (ci := 8) (vs := [vI x1, vI x2]) (rest := []) (Or.inl rfl) ml_RX8_233 rfl (by decide) rfl rfl (Or.inl rfl) (Nat.le_of_ble_eq_true rfl) rfl dX8_asks_68 (WM_mono K (fun r h2 K => ?_)))
          obtain ⟨u1, rfl, K⟩ := K
          show J _ _ _ _ _ _ _ [vI u1] _
          exact J_ireturn rfl dX8_asks_71 K
        · replace K := K.1 c
          refine J_aload_n rfl dX8_asks_38 ?_
          refine J_iload_n rfl dX8_asks_39 ?_
          refine J_iload_n rfl dX8_asks_40 ?_
          refine J_aload_n rfl dX8_asks_41 ?_
          refine J_getS (r := 2) fl_RX8_13 rfl (Or.inl rfl) rfl dX8_asks_42 ?_
          refine J_bipush (by decide) (by decide) dX8_asks_45 ?_
          refine J_iload_n rfl dX8_asks_47 ?_
          refine J_iadd K.1 dX8_asks_48 ?_
          replace K := K.2
          refine J_ialoade (Or.inl rfl) K.1 (gi_no (by decide)) dX8_asks_49 ?_
          replace K := K.2
          refine J_aload_n rfl dX8_asks_50 ?_
          refine J_getS (r := 2) fl_RX8_13 rfl (Or.inl rfl) rfl dX8_asks_51 ?_
          refine J_bipush (by decide) (by decide) dX8_asks_54 ?_
          refine J_iload_n rfl dX8_asks_56 ?_
          refine J_iadd K.1 dX8_asks_57 ?_
          replace K := K.2
          refine J_ialoade (Or.inl rfl) K.1 (gi_no (by decide)) dX8_asks_58 ?_
          replace K := K.2
          refine J_b0 (J_callV (b1 := 0) (ci := 8) (vs := [vI x1, vI x2, vI (gi h 2 (39 + x2)), vI (gi h 2 (23 + x1))]) (rest := []) (Or.inl rfl) ml_RX8_229 rfl (by decide) rfl rfl (Or.inl rfl) (Nat.le_of_ble_eq_true rfl) rfl dX8_asks_59 (WM_mono K (fun r h3 K => ?_)))
          obtain ⟨u2, rfl, K⟩ := K
          show J _ _ _ _ _ _ _ [vI u2] _
          refine J_goto (tgt := 71) dX8_asks_62 (by decide) ?_
          exact J_ireturn rfl dX8_asks_71 K
      · replace K := K.2 (b2i_0.mp c)
        refine J_iconst (by decide) dX8_asks_30 ?_
        refine J_goto (tgt := 71) dX8_asks_31 (by decide) ?_
        exact J_ireturn rfl dX8_asks_71 K
