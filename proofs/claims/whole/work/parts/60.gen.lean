def Lp_X0_copyFrom_223 (d b : Nat) (Q : Option AV → AH → Prop) (o : Nat) (o2 : Nat) (y2 : Int) (h : AH) : Prop := J GX (d + 1) b mX0_copyFrom Q 223 [some (vR (some o)), some (vR (some o2)), some (vI y2)] [] h
set_option maxRecDepth 20000 in
set_option maxHeartbeats 2000000 in
theorem l_X0_copyFrom_223 {d b : Nat} {Q : Option AV → AH → Prop} {h : AH} {o : Nat} {o2 : Nat} {y2 : Int} (ho : isl o) (ho2 : isl o2) (K : (6 ≤ y2 → Q none h) ∧ (¬(6 ≤ y2) → (0 ≤ y2 ∧ y2 < 6) ∧ (0 ≤ y2 ∧ y2 < 6) ∧ (∀ r, rf h (o2 + 12) y2 = some r → Kd GX h r (.inl 5)) ∧ ∀ h1, h1 = sr h (o + 12) y2 (rf h (o2 + 12) y2) → R32 (y2 + 1) ∧ Lp_X0_copyFrom_223 d b Q o o2 (y2 + 1) h1)) : Lp_X0_copyFrom_223 d b Q o o2 y2 h := by
  unfold Lp_X0_copyFrom_223
  refine J_iload_n rfl dX0_copyFrom_223 ?_
  refine J_bipush (by decide) (by decide) dX0_copyFrom_224 ?_
  refine J_icmp_ge (tgt := 247) dX0_copyFrom_226 (by decide) (fun c => ?_) (fun c => ?_)
  · replace K := K.1 c
    exact J_return rfl dX0_copyFrom_247 K
  · replace K := K.2 c
    refine J_aload_n rfl dX0_copyFrom_229 ?_
    refine J_getS (r := o + 12) fl_RX0_66 rfl (Or.inl (gx_isl ho)) (gx_r12 ho) dX0_copyFrom_230 ?_
    refine J_iload_n rfl dX0_copyFrom_233 ?_
    refine J_aload_n rfl dX0_copyFrom_234 ?_
    refine J_getS (r := o2 + 12) fl_RX0_66 rfl (Or.inl (gx_isl ho2)) (gx_r12 ho2) dX0_copyFrom_235 ?_
    refine J_iload_n rfl dX0_copyFrom_238 ?_
    refine J_aaload4 (Or.inl (gx_a12 ho2)) K.1 dX0_copyFrom_239 ?_
    replace K := K.2
    have K0 := K.1
    replace K := K.2
    refine J_aastore4 (Or.inl (gx_a12 ho)) K0 (Or.inl (gx_n12 ho _)) K.1 dX0_copyFrom_240 ?_
    replace K := K.2
    replace K := K _ rfl
    refine J_iinc (loc' := [some (vR (some o)), some (vR (some o2)), some (vI (y2 + 1))]) (by decide) rfl K.1 rfl dX0_copyFrom_241 ?_
    replace K := K.2
    refine J_goto (tgt := 223) dX0_copyFrom_244 (by decide) ?_
    exact J_forget (loc' := [some (vR (some o)), some (vR (some o2)), some (vI (y2 + 1))]) (And.intro (Or.inr rfl) (And.intro (Or.inr rfl) (And.intro (Or.inr rfl) True.intro))) K
set_option maxRecDepth 20000 in
set_option maxHeartbeats 2000000 in
theorem w_X0_copyFrom {d b : Nat} {Q : Option AV → AH → Prop} {h : AH} {o : Nat} {o2 : Nat} (ho : isl o) (ho2 : isl o2) (K : ∀ h1, h1 = si h o 0 (gi h o2 0) → ∀ h2, h2 = si h1 o 2 (gi h1 o2 2) → ∀ h3, h3 = si h2 o 12 (gi h2 o2 12) → ∀ h4, h4 = si h3 o 14 (gi h3 o2 14) → ∀ h5, h5 = si h4 o 15 (gi h4 o2 15) → ∀ h6, h6 = si h5 o 16 (gi h5 o2 16) → ∀ h7, h7 = si h6 o 18 (gi h6 o2 18) → ∀ h8, h8 = cpy h7 (o2 + 1) 0 (o + 1) 0 8 → ∀ h9, h9 = cpy h8 (o2 + 2) 0 (o + 2) 0 8 → ∀ h10, h10 = cpy h9 (o2 + 3) 0 (o + 3) 0 8 → ∀ h11, h11 = cpy h10 (o2 + 4) 0 (o + 4) 0 8 → ∀ h12, h12 = cpy h11 (o2 + 5) 0 (o + 5) 0 8 → ∀ h13, h13 = cpy h12 (o2 + 6) 0 (o + 6) 0 8 → ∀ h14, h14 = cpy h13 (o2 + 7) 0 (o + 7) 0 8 → ∀ h15, h15 = cpy h14 (o2 + 8) 0 (o + 8) 0 8 → ∀ h16, h16 = cpy h15 (o2 + 9) 0 (o + 9) 0 25 → ∀ h17, h17 = cpy h16 (o2 + 10) 0 (o + 10) 0 25 → ∀ h18, h18 = cpy h17 (o2 + 11) 0 (o + 11) 0 8 → Lp_X0_copyFrom_223 d b Q o o2 0 h18) : WM GX (d + 1) b mX0_copyFrom [vR (some o), vR (some o2)] h Q := by
  refine WM_introE (loc' := [some (vR (some o)), some (vR (some o2)), none]) rfl (by decide) (Nat.le_of_ble_eq_true rfl) ?_
  refine J_aload_n rfl dX0_copyFrom_0 ?_
  refine J_aload_n rfl dX0_copyFrom_1 ?_
  refine J_getI fl_RX0_9 rfl (Or.inl (gx_isl ho2)) dX0_copyFrom_2 ?_
  refine J_putI fl_RX0_9 rfl (Or.inl (gx_isl ho)) dX0_copyFrom_5 ?_
  replace K := K _ rfl
  refine J_aload_n rfl dX0_copyFrom_8 ?_
  refine J_aload_n rfl dX0_copyFrom_9 ?_
  refine J_getI fl_RX0_19 rfl (Or.inl (gx_isl ho2)) dX0_copyFrom_10 ?_
  refine J_putI fl_RX0_19 rfl (Or.inl (gx_isl ho)) dX0_copyFrom_13 ?_
  replace K := K _ rfl
  refine J_aload_n rfl dX0_copyFrom_16 ?_
  refine J_aload_n rfl dX0_copyFrom_17 ?_
  refine J_getI fl_RX0_49 rfl (Or.inl (gx_isl ho2)) dX0_copyFrom_18 ?_
  refine J_putI fl_RX0_49 rfl (Or.inl (gx_isl ho)) dX0_copyFrom_21 ?_
  replace K := K _ rfl
  refine J_aload_n rfl dX0_copyFrom_24 ?_
  refine J_aload_n rfl dX0_copyFrom_25 ?_
  refine J_getI fl_RX0_55 rfl (Or.inl (gx_isl ho2)) dX0_copyFrom_26 ?_
  refine J_putI fl_RX0_55 rfl (Or.inl (gx_isl ho)) dX0_copyFrom_29 ?_
  replace K := K _ rfl
  refine J_aload_n rfl dX0_copyFrom_32 ?_
  refine J_aload_n rfl dX0_copyFrom_33 ?_
  refine J_getI fl_RX0_58 rfl (Or.inl (gx_isl ho2)) dX0_copyFrom_34 ?_
  refine J_putI fl_RX0_58 rfl (Or.inl (gx_isl ho)) dX0_copyFrom_37 ?_
  replace K := K _ rfl
  refine J_aload_n rfl dX0_copyFrom_40 ?_
  refine J_aload_n rfl dX0_copyFrom_41 ?_
  refine J_getI fl_RX0_61 rfl (Or.inl (gx_isl ho2)) dX0_copyFrom_42 ?_
  refine J_putI fl_RX0_61 rfl (Or.inl (gx_isl ho)) dX0_copyFrom_45 ?_
  replace K := K _ rfl
  refine J_aload_n rfl dX0_copyFrom_48 ?_
  refine J_aload_n rfl dX0_copyFrom_49 ?_
  refine J_getI fl_RX0_70 rfl (Or.inl (gx_isl ho2)) dX0_copyFrom_50 ?_
  refine J_putI fl_RX0_70 rfl (Or.inl (gx_isl ho)) dX0_copyFrom_53 ?_
  replace K := K _ rfl
  refine J_aload_n rfl dX0_copyFrom_56 ?_
  refine J_getS (r := o2 + 1) fl_RX0_15 rfl (Or.inl (gx_isl ho2)) (gx_r1 ho2) dX0_copyFrom_57 ?_
  refine J_iconst (by decide) dX0_copyFrom_60 ?_
  refine J_aload_n rfl dX0_copyFrom_61 ?_
  refine J_getS (r := o + 1) fl_RX0_15 rfl (Or.inl (gx_isl ho)) (gx_r1 ho) dX0_copyFrom_62 ?_
  refine J_iconst (by decide) dX0_copyFrom_65 ?_
  refine J_bipush (by decide) (by decide) dX0_copyFrom_66 ?_
  refine J_copy ml_RX0_79 (Or.inl (gx_a1 ho2)) (Or.inl (gx_a1 ho)) (by decide) (by decide) (by decide) (Nat.le_of_ble_eq_true rfl) dX0_copyFrom_68 ?_
  replace K := K _ rfl
  refine J_aload_n rfl dX0_copyFrom_71 ?_
  refine J_getS (r := o2 + 2) fl_RX0_22 rfl (Or.inl (gx_isl ho2)) (gx_r2 ho2) dX0_copyFrom_72 ?_
  refine J_iconst (by decide) dX0_copyFrom_75 ?_
  refine J_aload_n rfl dX0_copyFrom_76 ?_
  refine J_getS (r := o + 2) fl_RX0_22 rfl (Or.inl (gx_isl ho)) (gx_r2 ho) dX0_copyFrom_77 ?_
  refine J_iconst (by decide) dX0_copyFrom_80 ?_
  refine J_bipush (by decide) (by decide) dX0_copyFrom_81 ?_
  refine J_copy ml_RX0_79 (Or.inl (gx_a2 ho2)) (Or.inl (gx_a2 ho)) (by decide) (by decide) (by decide) (Nat.le_of_ble_eq_true rfl) dX0_copyFrom_83 ?_
  replace K := K _ rfl
  refine J_aload_n rfl dX0_copyFrom_86 ?_
  refine J_getS (r := o2 + 3) fl_RX0_25 rfl (Or.inl (gx_isl ho2)) (gx_r3 ho2) dX0_copyFrom_87 ?_
  refine J_iconst (by decide) dX0_copyFrom_90 ?_
  refine J_aload_n rfl dX0_copyFrom_91 ?_
  refine J_getS (r := o + 3) fl_RX0_25 rfl (Or.inl (gx_isl ho)) (gx_r3 ho) dX0_copyFrom_92 ?_
  refine J_iconst (by decide) dX0_copyFrom_95 ?_
  refine J_bipush (by decide) (by decide) dX0_copyFrom_96 ?_
  refine J_copy ml_RX0_79 (Or.inl (gx_a3 ho2)) (Or.inl (gx_a3 ho)) (by decide) (by decide) (by decide) (Nat.le_of_ble_eq_true rfl) dX0_copyFrom_98 ?_
  replace K := K _ rfl
  refine J_aload_n rfl dX0_copyFrom_101 ?_
  refine J_getS (r := o2 + 4) fl_RX0_28 rfl (Or.inl (gx_isl ho2)) (gx_r4 ho2) dX0_copyFrom_102 ?_
  refine J_iconst (by decide) dX0_copyFrom_105 ?_
  refine J_aload_n rfl dX0_copyFrom_106 ?_
  refine J_getS (r := o + 4) fl_RX0_28 rfl (Or.inl (gx_isl ho)) (gx_r4 ho) dX0_copyFrom_107 ?_
  refine J_iconst (by decide) dX0_copyFrom_110 ?_
  refine J_bipush (by decide) (by decide) dX0_copyFrom_111 ?_
  refine J_copy ml_RX0_79 (Or.inl (gx_a4 ho2)) (Or.inl (gx_a4 ho)) (by decide) (by decide) (by decide) (Nat.le_of_ble_eq_true rfl) dX0_copyFrom_113 ?_
  replace K := K _ rfl
  refine J_aload_n rfl dX0_copyFrom_116 ?_
  refine J_getS (r := o2 + 5) fl_RX0_31 rfl (Or.inl (gx_isl ho2)) (gx_r5 ho2) dX0_copyFrom_117 ?_
  refine J_iconst (by decide) dX0_copyFrom_120 ?_
  refine J_aload_n rfl dX0_copyFrom_121 ?_
  refine J_getS (r := o + 5) fl_RX0_31 rfl (Or.inl (gx_isl ho)) (gx_r5 ho) dX0_copyFrom_122 ?_
  refine J_iconst (by decide) dX0_copyFrom_125 ?_
  refine J_bipush (by decide) (by decide) dX0_copyFrom_126 ?_
  refine J_copy ml_RX0_79 (Or.inl (gx_a5 ho2)) (Or.inl (gx_a5 ho)) (by decide) (by decide) (by decide) (Nat.le_of_ble_eq_true rfl) dX0_copyFrom_128 ?_
  replace K := K _ rfl
  refine J_aload_n rfl dX0_copyFrom_131 ?_
  refine J_getS (r := o2 + 6) fl_RX0_34 rfl (Or.inl (gx_isl ho2)) (gx_r6 ho2) dX0_copyFrom_132 ?_
  refine J_iconst (by decide) dX0_copyFrom_135 ?_
  refine J_aload_n rfl dX0_copyFrom_136 ?_
  refine J_getS (r := o + 6) fl_RX0_34 rfl (Or.inl (gx_isl ho)) (gx_r6 ho) dX0_copyFrom_137 ?_
  refine J_iconst (by decide) dX0_copyFrom_140 ?_
  refine J_bipush (by decide) (by decide) dX0_copyFrom_141 ?_
  refine J_copy ml_RX0_79 (Or.inl (gx_a6 ho2)) (Or.inl (gx_a6 ho)) (by decide) (by decide) (by decide) (Nat.le_of_ble_eq_true rfl) dX0_copyFrom_143 ?_
  replace K := K _ rfl
  refine J_aload_n rfl dX0_copyFrom_146 ?_
  refine J_getS (r := o2 + 7) fl_RX0_37 rfl (Or.inl (gx_isl ho2)) (gx_r7 ho2) dX0_copyFrom_147 ?_
  refine J_iconst (by decide) dX0_copyFrom_150 ?_
  refine J_aload_n rfl dX0_copyFrom_151 ?_
  refine J_getS (r := o + 7) fl_RX0_37 rfl (Or.inl (gx_isl ho)) (gx_r7 ho) dX0_copyFrom_152 ?_
  refine J_iconst (by decide) dX0_copyFrom_155 ?_
  refine J_bipush (by decide) (by decide) dX0_copyFrom_156 ?_
  refine J_copy ml_RX0_79 (Or.inl (gx_a7 ho2)) (Or.inl (gx_a7 ho)) (by decide) (by decide) (by decide) (Nat.le_of_ble_eq_true rfl) dX0_copyFrom_158 ?_
  replace K := K _ rfl
  refine J_aload_n rfl dX0_copyFrom_161 ?_
  refine J_getS (r := o2 + 8) fl_RX0_40 rfl (Or.inl (gx_isl ho2)) (gx_r8 ho2) dX0_copyFrom_162 ?_
  refine J_iconst (by decide) dX0_copyFrom_165 ?_
  refine J_aload_n rfl dX0_copyFrom_166 ?_
  refine J_getS (r := o + 8) fl_RX0_40 rfl (Or.inl (gx_isl ho)) (gx_r8 ho) dX0_copyFrom_167 ?_
  refine J_iconst (by decide) dX0_copyFrom_170 ?_
  refine J_bipush (by decide) (by decide) dX0_copyFrom_171 ?_
  refine J_copy ml_RX0_79 (Or.inl (gx_a8 ho2)) (Or.inl (gx_a8 ho)) (by decide) (by decide) (by decide) (Nat.le_of_ble_eq_true rfl) dX0_copyFrom_173 ?_
  replace K := K _ rfl
  refine J_aload_n rfl dX0_copyFrom_176 ?_
  refine J_getS (r := o2 + 9) fl_RX0_43 rfl (Or.inl (gx_isl ho2)) (gx_r9 ho2) dX0_copyFrom_177 ?_
  refine J_iconst (by decide) dX0_copyFrom_180 ?_
  refine J_aload_n rfl dX0_copyFrom_181 ?_
  refine J_getS (r := o + 9) fl_RX0_43 rfl (Or.inl (gx_isl ho)) (gx_r9 ho) dX0_copyFrom_182 ?_
  refine J_iconst (by decide) dX0_copyFrom_185 ?_
  refine J_bipush (by decide) (by decide) dX0_copyFrom_186 ?_
  refine J_copy ml_RX0_79 (Or.inl (gx_a9 ho2)) (Or.inl (gx_a9 ho)) (by decide) (by decide) (by decide) (Nat.le_of_ble_eq_true rfl) dX0_copyFrom_188 ?_
  replace K := K _ rfl
  refine J_aload_n rfl dX0_copyFrom_191 ?_
  refine J_getS (r := o2 + 10) fl_RX0_46 rfl (Or.inl (gx_isl ho2)) (gx_r10 ho2) dX0_copyFrom_192 ?_
  refine J_iconst (by decide) dX0_copyFrom_195 ?_
  refine J_aload_n rfl dX0_copyFrom_196 ?_
  refine J_getS (r := o + 10) fl_RX0_46 rfl (Or.inl (gx_isl ho)) (gx_r10 ho) dX0_copyFrom_197 ?_
  refine J_iconst (by decide) dX0_copyFrom_200 ?_
  refine J_bipush (by decide) (by decide) dX0_copyFrom_201 ?_
  refine J_copy ml_RX0_79 (Or.inl (gx_a10 ho2)) (Or.inl (gx_a10 ho)) (by decide) (by decide) (by decide) (Nat.le_of_ble_eq_true rfl) dX0_copyFrom_203 ?_
  replace K := K _ rfl
  refine J_aload_n rfl dX0_copyFrom_206 ?_
  refine J_getS (r := o2 + 11) fl_RX0_52 rfl (Or.inl (gx_isl ho2)) (gx_r11 ho2) dX0_copyFrom_207 ?_
  refine J_iconst (by decide) dX0_copyFrom_210 ?_
  refine J_aload_n rfl dX0_copyFrom_211 ?_
  refine J_getS (r := o + 11) fl_RX0_52 rfl (Or.inl (gx_isl ho)) (gx_r11 ho) dX0_copyFrom_212 ?_
  refine J_iconst (by decide) dX0_copyFrom_215 ?_
  refine J_bipush (by decide) (by decide) dX0_copyFrom_216 ?_
  refine J_copy ml_RX0_79 (Or.inl (gx_a11 ho2)) (Or.inl (gx_a11 ho)) (by decide) (by decide) (by decide) (Nat.le_of_ble_eq_true rfl) dX0_copyFrom_218 ?_
  replace K := K _ rfl
  refine J_iconst (by decide) dX0_copyFrom_221 ?_
  refine J_istore_n (loc' := [some (vR (some o)), some (vR (some o2)), some (vI 0)]) (by decide) rfl dX0_copyFrom_222 ?_
  exact J_forget (loc' := [some (vR (some o)), some (vR (some o2)), some (vI 0)]) (And.intro (Or.inr rfl) (And.intro (Or.inr rfl) (And.intro (Or.inr rfl) True.intro))) K
set_option maxRecDepth 20000 in
set_option maxHeartbeats 2000000 in
theorem w_X7_image {d b : Nat} {Q : Option AV → AH → Prop} {h : AH} {x1 : Int}  (K : R32 x1 → (x1 < 0 → (∀ i : Int, 0 ≤ i → i < 5 → 0 ≤ gi h 14 i ∧ gi h 14 i ≤ 1000000) ∧ ∀ h1, h1 = xRef h (-1) → Q (some (vI (-1))) h1) ∧ (¬(x1 < 0) → (x1 < 2 → (x1 = 0 ∨ x1 = 1) ∧ Kd GX h (50 + 13 * Int.toNat x1) (.inl 0) ∧ WM GX (d + 1) 0 mX0_copyFrom [vR (some (50 + 13 * Int.toNat x1)), vR (some 1)] h (fun r h2 => r = none ∧ (0 ≤ x1 ∧ x1 < 2) ∧ ∀ h3, h3 = si h2 15 x1 1 → ∀ h4, h4 = si h3 0 14 0 → Q (some (vI 0)) h4)) ∧ (¬(x1 < 2) → (∀ i : Int, 0 ≤ i → i < 5 → 0 ≤ gi h 14 i ∧ gi h 14 i ≤ 1000000) ∧ ∀ h5, h5 = xRef h (-1) → Q (some (vI (-1))) h5))) : WM GX (d + 2) b mX7_image [vR (some 0), vI x1] h Q := by
  refine WM_introE (loc' := [some (vR (some 0)), some (vI x1)]) rfl (by decide) (Nat.le_of_ble_eq_true rfl) ?_
  refine J_rgl (i := 1) rfl (fun r1 => ?_)
  replace K := K r1
  refine J_iload_n rfl dX7_image_0 ?_
  refine J_if_lt (tgt := 9) dX7_image_1 (by decide) (fun c => ?_) (fun c => ?_)
  · replace K := K.1 c
    refine J_aload_n rfl dX7_image_9 ?_
    refine J_iconst (by decide) dX7_image_10 ?_
    refine J_b0 (J_callV (b1 := 0) (ci := 7) (vs := [vI (-1)]) (rest := []) (Or.inl rfl) ml_RX7_88 rfl (by decide) rfl rfl (Or.inl rfl) (Nat.le_of_ble_eq_true rfl) rfl dX7_image_11 (c_X7_refuse  K.1 ?_))
    replace K := K.2
    replace K := K _ rfl
    show J _ _ _ _ _ _ _ [vI (-1)] _
    exact J_ireturn rfl dX7_image_14 K
  · replace K := K.2 c
    refine J_iload_n rfl dX7_image_4 ?_
    refine J_iconst (by decide) dX7_image_5 ?_
    refine J_icmp_lt (tgt := 15) dX7_image_6 (by decide) (fun c => ?_) (fun c => ?_)
    · replace K := K.1 c
      refine J_aload_n rfl dX7_image_15 ?_
      refine J_iload_n rfl dX7_image_16 ?_
      refine J_b0 (J_callV (b1 := 0) (ci := 7) (vs := [vI x1]) (rest := []) (Or.inl rfl) ml_RX7_309 rfl (by decide) rfl rfl (Or.inl rfl) (Nat.le_of_ble_eq_true rfl) rfl dX7_image_17 (c_X7_imageOf  K.1 ?_))
      replace K := K.2
      show J _ _ _ _ _ _ _ [vR (some (50 + 13 * Int.toNat x1))] _
      refine J_aload_n rfl dX7_image_20 ?_
      refine J_getS (r := 1) fl_RX7_10 rfl (Or.inl rfl) rfl dX7_image_21 ?_
      have K0 := K.1
      replace K := K.2
      refine J_b0 (J_callV (b1 := 0) (ci := 0) (vs := [vR (some 1)]) (rest := []) (Or.inr rfl) ml_RX7_288 rfl (by decide) rfl rfl K0 (Nat.le_of_ble_eq_true rfl) rfl dX7_image_24 (WM_mono K (fun r h2 K => ?_)))
      obtain ⟨rfl, K⟩ := K
      show J _ _ _ _ _ _ _ [] _
      refine J_aload_n rfl dX7_image_27 ?_
      refine J_getS (r := 15) fl_RX7_22 rfl (Or.inl rfl) rfl dX7_image_28 ?_
      refine J_iload_n rfl dX7_image_31 ?_
      refine J_iconst (by decide) dX7_image_32 ?_
      refine J_bastore (Or.inl rfl) K.1 (by decide) dX7_image_33 ?_
      replace K := K.2
      replace K := K _ rfl
      refine J_aload_n rfl dX7_image_34 ?_
      refine J_iconst (by decide) dX7_image_35 ?_
      refine J_b0 (J_callV (b1 := 0) (ci := 7) (vs := [vI 0]) (rest := []) (Or.inl rfl) ml_RX7_98 rfl (by decide) rfl rfl (Or.inl rfl) (Nat.le_of_ble_eq_true rfl) rfl dX7_image_36 (c_X7_granted   ?_))
      replace K := K _ rfl
      show J _ _ _ _ _ _ _ [vI 0] _
      exact J_ireturn rfl dX7_image_39 K
    · replace K := K.2 c
      refine J_aload_n rfl dX7_image_9 ?_
      refine J_iconst (by decide) dX7_image_10 ?_
      refine J_b0 (J_callV (b1 := 0) (ci := 7) (vs := [vI (-1)]) (rest := []) (Or.inl rfl) ml_RX7_88 rfl (by decide) rfl rfl (Or.inl rfl) (Nat.le_of_ble_eq_true rfl) rfl dX7_image_11 (c_X7_refuse  K.1 ?_))
      replace K := K.2
      replace K := K _ rfl
      show J _ _ _ _ _ _ _ [vI (-1)] _
      exact J_ireturn rfl dX7_image_14 K
set_option maxRecDepth 20000 in
set_option maxHeartbeats 2000000 in
theorem w_X7_back {d b : Nat} {Q : Option AV → AH → Prop} {h : AH} {x1 : Int}  (K : R32 x1 → (x1 < 0 → (∀ i : Int, 0 ≤ i → i < 5 → 0 ≤ gi h 14 i ∧ gi h 14 i ≤ 1000000) ∧ ∀ h1, h1 = xRef h (-1) → Q (some (vI (-1))) h1) ∧ (¬(x1 < 0) → (x1 < 2 → (0 ≤ x1 ∧ x1 < 2) ∧ (gi h 15 x1 = 0 → (∀ i : Int, 0 ≤ i → i < 5 → 0 ≤ gi h 14 i ∧ gi h 14 i ≤ 1000000) ∧ ∀ h5, h5 = xRef h (-2) → Q (some (vI (-2))) h5) ∧ (¬(gi h 15 x1 = 0) → (x1 = 0 ∨ x1 = 1) ∧ WM GX (d + 1) 0 mX0_copyFrom [vR (some 1), vR (some (50 + 13 * Int.toNat x1))] h (fun r h2 => r = none ∧ ∀ h3, h3 = si h2 41 1 0 → ∀ h4, h4 = si h3 0 14 0 → Q (some (vI 0)) h4))) ∧ (¬(x1 < 2) → (∀ i : Int, 0 ≤ i → i < 5 → 0 ≤ gi h 14 i ∧ gi h 14 i ≤ 1000000) ∧ ∀ h6, h6 = xRef h (-1) → Q (some (vI (-1))) h6))) : WM GX (d + 2) b mX7_back [vR (some 0), vI x1] h Q := by
  refine WM_introE (loc' := [some (vR (some 0)), some (vI x1)]) rfl (by decide) (Nat.le_of_ble_eq_true rfl) ?_
  refine J_rgl (i := 1) rfl (fun r1 => ?_)
  replace K := K r1
  refine J_iload_n rfl dX7_back_0 ?_
  refine J_if_lt (tgt := 9) dX7_back_1 (by decide) (fun c => ?_) (fun c => ?_)
  · replace K := K.1 c
    refine J_aload_n rfl dX7_back_9 ?_
    refine J_iconst (by decide) dX7_back_10 ?_
    refine J_b0 (J_callV (b1 := 0) (ci := 7) (vs := [vI (-1)]) (rest := []) (Or.inl rfl) ml_RX7_88 rfl (by decide) rfl rfl (Or.inl rfl) (Nat.le_of_ble_eq_true rfl) rfl dX7_back_11 (c_X7_refuse  K.1 ?_))
    replace K := K.2
    replace K := K _ rfl
    show J _ _ _ _ _ _ _ [vI (-1)] _
    exact J_ireturn rfl dX7_back_14 K
  · replace K := K.2 c
    refine J_iload_n rfl dX7_back_4 ?_
    refine J_iconst (by decide) dX7_back_5 ?_
    refine J_icmp_lt (tgt := 15) dX7_back_6 (by decide) (fun c => ?_) (fun c => ?_)
    · replace K := K.1 c
      refine J_aload_n rfl dX7_back_15 ?_
      refine J_getS (r := 15) fl_RX7_22 rfl (Or.inl rfl) rfl dX7_back_16 ?_
      refine J_iload_n rfl dX7_back_19 ?_
      refine J_baload (Or.inl rfl) K.1 dX7_back_20 ?_
      replace K := K.2
      refine J_if_ne (tgt := 31) dX7_back_21 (by decide) (fun c => ?_) (fun c => ?_)
      · replace K := K.2 c
        refine J_aload_n rfl dX7_back_31 ?_
        refine J_getS (r := 1) fl_RX7_10 rfl (Or.inl rfl) rfl dX7_back_32 ?_
        refine J_aload_n rfl dX7_back_35 ?_
        refine J_iload_n rfl dX7_back_36 ?_
        refine J_b0 (J_callV (b1 := 0) (ci := 7) (vs := [vI x1]) (rest := [vR (some 1)]) (Or.inl rfl) ml_RX7_309 rfl (by decide) rfl rfl (Or.inl rfl) (Nat.le_of_ble_eq_true rfl) rfl dX7_back_37 (c_X7_imageOf  K.1 ?_))
        replace K := K.2
        show J _ _ _ _ _ _ _ [vR (some (50 + 13 * Int.toNat x1)), vR (some 1)] _
        refine J_b0 (J_callV (b1 := 0) (ci := 0) (vs := [vR (some (50 + 13 * Int.toNat x1))]) (rest := []) (Or.inr rfl) ml_RX7_288 rfl (by decide) rfl rfl (Or.inl rfl) (Nat.le_of_ble_eq_true rfl) rfl dX7_back_40 (WM_mono K (fun r h2 K => ?_)))
        obtain ⟨rfl, K⟩ := K
        show J _ _ _ _ _ _ _ [] _
        refine J_aload_n rfl dX7_back_43 ?_
        refine J_getS (r := 41) fl_RX7_57 rfl (Or.inl rfl) rfl dX7_back_44 ?_
        refine J_iconst (by decide) dX7_back_47 ?_
        refine J_putI fl_RX7_135 rfl (Or.inl rfl) dX7_back_48 ?_
        replace K := K _ rfl
        refine J_aload_n rfl dX7_back_51 ?_
        refine J_iconst (by decide) dX7_back_52 ?_
        refine J_b0 (J_callV (b1 := 0) (ci := 7) (vs := [vI 0]) (rest := []) (Or.inl rfl) ml_RX7_98 rfl (by decide) rfl rfl (Or.inl rfl) (Nat.le_of_ble_eq_true rfl) rfl dX7_back_53 (c_X7_granted   ?_))
        replace K := K _ rfl
        show J _ _ _ _ _ _ _ [vI 0] _
        exact J_ireturn rfl dX7_back_56 K
      · replace K := K.1 c
        refine J_aload_n rfl dX7_back_24 ?_
        refine J_bipush (by decide) (by decide) dX7_back_25 ?_
        refine J_b0 (J_callV (b1 := 0) (ci := 7) (vs := [vI (-2)]) (rest := []) (Or.inl rfl) ml_RX7_88 rfl (by decide) rfl rfl (Or.inl rfl) (Nat.le_of_ble_eq_true rfl) rfl dX7_back_27 (c_X7_refuse  K.1 ?_))
        replace K := K.2
        replace K := K _ rfl
        show J _ _ _ _ _ _ _ [vI (-2)] _
        exact J_ireturn rfl dX7_back_30 K
    · replace K := K.2 c
      refine J_aload_n rfl dX7_back_9 ?_
      refine J_iconst (by decide) dX7_back_10 ?_
      refine J_b0 (J_callV (b1 := 0) (ci := 7) (vs := [vI (-1)]) (rest := []) (Or.inl rfl) ml_RX7_88 rfl (by decide) rfl rfl (Or.inl rfl) (Nat.le_of_ble_eq_true rfl) rfl dX7_back_11 (c_X7_refuse  K.1 ?_))
      replace K := K.2
      replace K := K _ rfl
      show J _ _ _ _ _ _ _ [vI (-1)] _
      exact J_ireturn rfl dX7_back_14 K
def Lp_X7_summers_50 (d b : Nat) (Q : Option AV → AH → Prop)  (y2 : Int) (y3 : Int) (y5 : Int) (h : AH) : Prop := J GX (d + 4) b mX7_summers Q 50 [some (vR (some 0)), none, some (vI y2), some (vL y3), none, some (vI y5), none, none] [] h
def Lp_X7_summers_72 (d b : Nat) (Q : Option AV → AH → Prop)  (y2 : Int) (y3 : Int) (y5 : Int) (y6 : Int) (h : AH) : Prop := J GX (d + 4) b mX7_summers Q 72 [some (vR (some 0)), none, some (vI y2), some (vL y3), none, some (vI y5), some (vI y6), none] [] h
set_option maxRecDepth 20000 in
set_option maxHeartbeats 2000000 in
theorem l_X7_summers_50 {d b : Nat} {Q : Option AV → AH → Prop} {h : AH}  {y2 : Int} {y3 : Int} {y5 : Int}  (K : (y2 ≤ y5 → (0 ≤ gi h 16 2 ∧ gi h 16 2 ≤ 8) ∧ (0 ≤ gi h 1 2 ∧ gi h 1 2 ≤ 8) ∧ R32 ((sumZ (fun i => b2i (gi h 22 i = -1 ∧ gi h 23 i = -1)) (gi h 16 2).toNat 0) - (sumZ (fun i => b2i (gi h 7 i = -1 ∧ gi h 8 i = -1)) (gi h 1 2).toNat 0)) ∧ ∀ h1, h1 = si h 0 14 0 → Q (some (vI ((sumZ (fun i => b2i (gi h 22 i = -1 ∧ gi h 23 i = -1)) (gi h 16 2).toNat 0) - (sumZ (fun i => b2i (gi h 7 i = -1 ∧ gi h 8 i = -1)) (gi h 1 2).toNat 0)))) h1) ∧ (¬(y2 ≤ y5) → (999 ≤ gi h 16 14 → (0 ≤ gi h 16 2 ∧ gi h 16 2 ≤ 8) ∧ (0 ≤ gi h 1 2 ∧ gi h 1 2 ≤ 8) ∧ R32 ((sumZ (fun i => b2i (gi h 22 i = -1 ∧ gi h 23 i = -1)) (gi h 16 2).toNat 0) - (sumZ (fun i => b2i (gi h 7 i = -1 ∧ gi h 8 i = -1)) (gi h 1 2).toNat 0)) ∧ ∀ h2, h2 = si h 0 14 0 → Q (some (vI ((sumZ (fun i => b2i (gi h 22 i = -1 ∧ gi h 23 i = -1)) (gi h 16 2).toNat 0) - (sumZ (fun i => b2i (gi h 7 i = -1 ∧ gi h 8 i = -1)) (gi h 1 2).toNat 0)))) h2) ∧ (¬(999 ≤ gi h 16 14) → Lp_X7_summers_72 d b Q y2 y3 y5 0 h))) : Lp_X7_summers_50 d b Q y2 y3 y5 h := by
  unfold Lp_X7_summers_50
  refine J_iload rfl dX7_summers_50 ?_
  refine J_iload_n rfl dX7_summers_52 ?_
  refine J_icmp_ge (tgt := 209) dX7_summers_53 (by decide) (fun c => ?_) (fun c => ?_)
  · replace K := K.1 c
    refine J_aload_n rfl dX7_summers_209 ?_
    refine J_aload_n rfl dX7_summers_210 ?_
    refine J_getS (r := 16) fl_RX7_26 rfl (Or.inl rfl) rfl dX7_summers_211 ?_
    refine J_b0 (J_callV (b1 := 0) (ci := 0) (vs := []) (rest := [vR (some 0)]) (Or.inr rfl) ml_RX7_306 rfl (by decide) rfl rfl (Or.inl rfl) (Nat.le_of_ble_eq_true rfl) rfl dX7_summers_214 (c_X0_lost (by decide) K.1 ?_))
    replace K := K.2
    show J _ _ _ _ _ _ _ [vI (sumZ (fun i => b2i (gi h 22 i = -1 ∧ gi h 23 i = -1)) (gi h 16 2).toNat 0), vR (some 0)] _
    refine J_aload_n rfl dX7_summers_217 ?_
    refine J_getS (r := 1) fl_RX7_10 rfl (Or.inl rfl) rfl dX7_summers_218 ?_
    refine J_b0 (J_callV (b1 := 0) (ci := 0) (vs := []) (rest := [vI (sumZ (fun i => b2i (gi h 22 i = -1 ∧ gi h 23 i = -1)) (gi h 16 2).toNat 0), vR (some 0)]) (Or.inr rfl) ml_RX7_306 rfl (by decide) rfl rfl (Or.inl rfl) (Nat.le_of_ble_eq_true rfl) rfl dX7_summers_221 (c_X0_lost (by decide) K.1 ?_))
    replace K := K.2
    show J _ _ _ _ _ _ _ [vI (sumZ (fun i => b2i (gi h 7 i = -1 ∧ gi h 8 i = -1)) (gi h 1 2).toNat 0), vI (sumZ (fun i => b2i (gi h 22 i = -1 ∧ gi h 23 i = -1)) (gi h 16 2).toNat 0), vR (some 0)] _
    refine J_isub K.1 dX7_summers_224 ?_
    replace K := K.2
    refine J_b0 (J_callV (b1 := 0) (ci := 7) (vs := [vI ((sumZ (fun i => b2i (gi h 22 i = -1 ∧ gi h 23 i = -1)) (gi h 16 2).toNat 0) - (sumZ (fun i => b2i (gi h 7 i = -1 ∧ gi h 8 i = -1)) (gi h 1 2).toNat 0))]) (rest := []) (Or.inl rfl) ml_RX7_98 rfl (by decide) rfl rfl (Or.inl rfl) (Nat.le_of_ble_eq_true rfl) rfl dX7_summers_225 (c_X7_granted   ?_))
    replace K := K _ rfl
    show J _ _ _ _ _ _ _ [vI ((sumZ (fun i => b2i (gi h 22 i = -1 ∧ gi h 23 i = -1)) (gi h 16 2).toNat 0) - (sumZ (fun i => b2i (gi h 7 i = -1 ∧ gi h 8 i = -1)) (gi h 1 2).toNat 0))] _
    exact J_ireturn rfl dX7_summers_228 K
  · replace K := K.2 c
    refine J_aload_n rfl dX7_summers_56 ?_
    refine J_getS (r := 16) fl_RX7_26 rfl (Or.inl rfl) rfl dX7_summers_57 ?_
    refine J_getI fl_RX7_175 rfl (Or.inl rfl) dX7_summers_60 ?_
    refine J_sipush (by decide) (by decide) dX7_summers_63 ?_
    refine J_icmp_ge (tgt := 209) dX7_summers_66 (by decide) (fun c => ?_) (fun c => ?_)
    · replace K := K.1 c
      refine J_aload_n rfl dX7_summers_209 ?_
      refine J_aload_n rfl dX7_summers_210 ?_
      refine J_getS (r := 16) fl_RX7_26 rfl (Or.inl rfl) rfl dX7_summers_211 ?_
      refine J_b0 (J_callV (b1 := 0) (ci := 0) (vs := []) (rest := [vR (some 0)]) (Or.inr rfl) ml_RX7_306 rfl (by decide) rfl rfl (Or.inl rfl) (Nat.le_of_ble_eq_true rfl) rfl dX7_summers_214 (c_X0_lost (by decide) K.1 ?_))
      replace K := K.2
      show J _ _ _ _ _ _ _ [vI (sumZ (fun i => b2i (gi h 22 i = -1 ∧ gi h 23 i = -1)) (gi h 16 2).toNat 0), vR (some 0)] _
      refine J_aload_n rfl dX7_summers_217 ?_
      refine J_getS (r := 1) fl_RX7_10 rfl (Or.inl rfl) rfl dX7_summers_218 ?_
      refine J_b0 (J_callV (b1 := 0) (ci := 0) (vs := []) (rest := [vI (sumZ (fun i => b2i (gi h 22 i = -1 ∧ gi h 23 i = -1)) (gi h 16 2).toNat 0), vR (some 0)]) (Or.inr rfl) ml_RX7_306 rfl (by decide) rfl rfl (Or.inl rfl) (Nat.le_of_ble_eq_true rfl) rfl dX7_summers_221 (c_X0_lost (by decide) K.1 ?_))
      replace K := K.2
      show J _ _ _ _ _ _ _ [vI (sumZ (fun i => b2i (gi h 7 i = -1 ∧ gi h 8 i = -1)) (gi h 1 2).toNat 0), vI (sumZ (fun i => b2i (gi h 22 i = -1 ∧ gi h 23 i = -1)) (gi h 16 2).toNat 0), vR (some 0)] _
      refine J_isub K.1 dX7_summers_224 ?_
      replace K := K.2
      refine J_b0 (J_callV (b1 := 0) (ci := 7) (vs := [vI ((sumZ (fun i => b2i (gi h 22 i = -1 ∧ gi h 23 i = -1)) (gi h 16 2).toNat 0) - (sumZ (fun i => b2i (gi h 7 i = -1 ∧ gi h 8 i = -1)) (gi h 1 2).toNat 0))]) (rest := []) (Or.inl rfl) ml_RX7_98 rfl (by decide) rfl rfl (Or.inl rfl) (Nat.le_of_ble_eq_true rfl) rfl dX7_summers_225 (c_X7_granted   ?_))
      replace K := K _ rfl
      show J _ _ _ _ _ _ _ [vI ((sumZ (fun i => b2i (gi h 22 i = -1 ∧ gi h 23 i = -1)) (gi h 16 2).toNat 0) - (sumZ (fun i => b2i (gi h 7 i = -1 ∧ gi h 8 i = -1)) (gi h 1 2).toNat 0))] _
      exact J_ireturn rfl dX7_summers_228 K
    · replace K := K.2 c
      refine J_iconst (by decide) dX7_summers_69 ?_
      refine J_istore (loc' := [some (vR (some 0)), none, some (vI y2), some (vL y3), none, some (vI y5), some (vI 0), none]) (by decide) rfl dX7_summers_70 ?_
      exact J_forget (loc' := [some (vR (some 0)), none, some (vI y2), some (vL y3), none, some (vI y5), some (vI 0), none]) (And.intro (Or.inr rfl) (And.intro (Or.inl rfl) (And.intro (Or.inr rfl) (And.intro (Or.inr rfl) (And.intro (Or.inl rfl) (And.intro (Or.inr rfl) (And.intro (Or.inr rfl) (And.intro (Or.inl rfl) True.intro)))))))) K
set_option maxRecDepth 20000 in
set_option maxHeartbeats 2000000 in
theorem l_X7_summers_72 {d b : Nat} {Q : Option AV → AH → Prop} {h : AH}  {y2 : Int} {y3 : Int} {y5 : Int} {y6 : Int}  (K : (gi h 16 2 ≤ y6 → WM GX (d + 3) 0 mX0_flow [vR (some 16)] h (fun r h1 => ∃ u2, r = some (vI u2) ∧ R32 (y5 + 1) ∧ Lp_X7_summers_50 d b Q y2 y3 (y5 + 1) h1)) ∧ (¬(gi h 16 2 ≤ y6) → (0 ≤ y6 ∧ y6 < 8) ∧ (gi h 23 y6 = (-1) → R32 (y6 + 1) ∧ Lp_X7_summers_72 d b Q y2 y3 y5 (y6 + 1) h) ∧ (¬(gi h 23 y6 = (-1)) → (0 ≤ gi h 23 y6 ∧ gi h 23 y6 < 25) ∧ WM GX (d + 3) 0 mX1_catchOf [vR (some 38), vR (some 16), vI y6, vI (gi h 23 y6), vI (gi h 25 (gi h 23 y6))] h (fun r h2 => ∃ u3, r = some (vI u3) ∧ WM GX (d + 3) 0 mX0_take [vR (some 16), vI y6, vI u3] h2 (fun r h3 => r = none ∧ R64 (y3 * 1103) ∧ R64 ((y3 * 1103) + 12345) ∧ R64 (Int.tmod ((y3 * 1103) + 12345) 1000003) ∧ R64 (Int.tmod (Int.tmod ((y3 * 1103) + 12345) 1000003) 10) ∧ WM GX (d + 3) 0 mX1_slamOf [vR (some 38), vR (some 16), vI y6, vI (gi h 23 y6)] h3 (fun r h4 => ∃ u5, r = some (vI u5) ∧ (u5 ≤ Int.tmod (Int.tmod ((y3 * 1103) + 12345) 1000003) 10 → R32 (y6 + 1) ∧ Lp_X7_summers_72 d b Q y2 (Int.tmod ((y3 * 1103) + 12345) 1000003) y5 (y6 + 1) h4) ∧ (¬(u5 ≤ Int.tmod (Int.tmod ((y3 * 1103) + 12345) 1000003) 10) → (0 ≤ y6 ∧ y6 < 8) ∧ ∀ h5, h5 = si h4 23 y6 (-1) → R32 (y6 + 1) ∧ Lp_X7_summers_72 d b Q y2 (Int.tmod ((y3 * 1103) + 12345) 1000003) y5 (y6 + 1) h5))))))) : Lp_X7_summers_72 d b Q y2 y3 y5 y6 h := by
  unfold Lp_X7_summers_72
  refine J_iload rfl dX7_summers_72 ?_
  refine J_aload_n rfl dX7_summers_74 ?_
  refine J_getS (r := 16) fl_RX7_26 rfl (Or.inl rfl) rfl dX7_summers_75 ?_
  refine J_getI fl_RX7_111 rfl (Or.inl rfl) dX7_summers_78 ?_
  refine J_icmp_ge (tgt := 195) dX7_summers_81 (by decide) (fun c => ?_) (fun c => ?_)
  · replace K := K.1 c
    refine J_aload_n rfl dX7_summers_195 ?_
    refine J_getS (r := 16) fl_RX7_26 rfl (Or.inl rfl) rfl dX7_summers_196 ?_
    refine J_b0 (J_callV (b1 := 0) (ci := 0) (vs := []) (rest := []) (Or.inr rfl) ml_RX7_302 rfl (by decide) rfl rfl (Or.inl rfl) (Nat.le_of_ble_eq_true rfl) rfl dX7_summers_199 (WM_mono K (fun r h1 K => ?_)))
    obtain ⟨u2, rfl, K⟩ := K
    show J _ _ _ _ _ _ _ [vI u2] _
    refine J_pop rfl dX7_summers_202 ?_
    refine J_iinc (loc' := [some (vR (some 0)), none, some (vI y2), some (vL y3), none, some (vI (y5 + 1)), some (vI y6), none]) (by decide) rfl K.1 rfl dX7_summers_203 ?_
    replace K := K.2
    refine J_goto (tgt := 50) dX7_summers_206 (by decide) ?_
    exact J_forget (loc' := [some (vR (some 0)), none, some (vI y2), some (vL y3), none, some (vI (y5 + 1)), none, none]) (And.intro (Or.inr rfl) (And.intro (Or.inl rfl) (And.intro (Or.inr rfl) (And.intro (Or.inr rfl) (And.intro (Or.inl rfl) (And.intro (Or.inr rfl) (And.intro (Or.inl rfl) (And.intro (Or.inl rfl) True.intro)))))))) K
  · replace K := K.2 c
    refine J_aload_n rfl dX7_summers_84 ?_
    refine J_getS (r := 16) fl_RX7_26 rfl (Or.inl rfl) rfl dX7_summers_85 ?_
    refine J_getS (r := 23) fl_RX7_129 rfl (Or.inl rfl) rfl dX7_summers_88 ?_
    refine J_iload rfl dX7_summers_91 ?_
    refine J_iaload (Or.inl rfl) K.1 dX7_summers_93 ?_
    replace K := K.2
    refine J_istore (loc' := [some (vR (some 0)), none, some (vI y2), some (vL y3), none, some (vI y5), some (vI y6), some (vI (gi h 23 y6))]) (by decide) rfl dX7_summers_94 ?_
    refine J_iload rfl dX7_summers_96 ?_
    refine J_iconst (by decide) dX7_summers_98 ?_
    refine J_icmp_ne (tgt := 105) dX7_summers_99 (by decide) (fun c => ?_) (fun c => ?_)
    · replace K := K.2 c
      refine J_aload_n rfl dX7_summers_105 ?_
      refine J_getS (r := 16) fl_RX7_26 rfl (Or.inl rfl) rfl dX7_summers_106 ?_
      refine J_iload rfl dX7_summers_109 ?_
      refine J_aload_n rfl dX7_summers_111 ?_
      refine J_getS (r := 38) fl_RX7_50 rfl (Or.inl rfl) rfl dX7_summers_112 ?_
      refine J_aload_n rfl dX7_summers_115 ?_
      refine J_getS (r := 16) fl_RX7_26 rfl (Or.inl rfl) rfl dX7_summers_116 ?_
      refine J_iload rfl dX7_summers_119 ?_
      refine J_iload rfl dX7_summers_121 ?_
      refine J_aload_n rfl dX7_summers_123 ?_
      refine J_getS (r := 16) fl_RX7_26 rfl (Or.inl rfl) rfl dX7_summers_124 ?_
      refine J_getS (r := 25) fl_RX7_155 rfl (Or.inl rfl) rfl dX7_summers_127 ?_
      refine J_iload rfl dX7_summers_130 ?_
      refine J_iaload (Or.inl rfl) K.1 dX7_summers_132 ?_
      replace K := K.2
      refine J_b0 (J_callV (b1 := 0) (ci := 1) (vs := [vR (some 16), vI y6, vI (gi h 23 y6), vI (gi h 25 (gi h 23 y6))]) (rest := [vI y6, vR (some 16)]) (Or.inr rfl) ml_RX7_161 rfl (by decide) rfl rfl (Or.inl rfl) (Nat.le_of_ble_eq_true rfl) rfl dX7_summers_133 (WM_mono K (fun r h2 K => ?_)))
      obtain ⟨u3, rfl, K⟩ := K
      show J _ _ _ _ _ _ _ [vI u3, vI y6, vR (some 16)] _
      refine J_b0 (J_callV (b1 := 0) (ci := 0) (vs := [vI y6, vI u3]) (rest := []) (Or.inr rfl) ml_RX7_292 rfl (by decide) rfl rfl (Or.inl rfl) (Nat.le_of_ble_eq_true rfl) rfl dX7_summers_136 (WM_mono K (fun r h3 K => ?_)))
      obtain ⟨rfl, K⟩ := K
      show J _ _ _ _ _ _ _ [] _
      refine J_lload_n rfl dX7_summers_139 ?_
      refine J_ldc2 (n := 1103) (by decide) (by decide) kc_RX7_296 dX7_summers_140 ?_
      refine J_lmul K.1 dX7_summers_143 ?_
      replace K := K.2
      refine J_ldc2 (n := 12345) (by decide) (by decide) kc_RX7_298 dX7_summers_144 ?_
      refine J_ladd K.1 dX7_summers_147 ?_
      replace K := K.2
      refine J_ldc2 (n := 1000003) (by decide) (by decide) kc_RX7_300 dX7_summers_148 ?_
      refine J_lrem (by decide) K.1 dX7_summers_151 ?_
      replace K := K.2
      refine J_lstore_n (loc' := [some (vR (some 0)), none, some (vI y2), some (vL (Int.tmod ((y3 * 1103) + 12345) 1000003)), none, some (vI y5), some (vI y6), some (vI (gi h 23 y6))]) (by decide) rfl dX7_summers_152 ?_
      refine J_lload_n rfl dX7_summers_153 ?_
      refine J_ldc2 (n := 10) (by decide) (by decide) kc_RX7_278 dX7_summers_154 ?_
      refine J_lrem (by decide) K.1 dX7_summers_157 ?_
      replace K := K.2
      refine J_aload_n rfl dX7_summers_158 ?_
      refine J_getS (r := 38) fl_RX7_50 rfl (Or.inl rfl) rfl dX7_summers_159 ?_
      refine J_aload_n rfl dX7_summers_162 ?_
      refine J_getS (r := 16) fl_RX7_26 rfl (Or.inl rfl) rfl dX7_summers_163 ?_
      refine J_iload rfl dX7_summers_166 ?_
      refine J_iload rfl dX7_summers_168 ?_
      refine J_b0 (J_callV (b1 := 0) (ci := 1) (vs := [vR (some 16), vI y6, vI (gi h 23 y6)]) (rest := [vL (Int.tmod (Int.tmod ((y3 * 1103) + 12345) 1000003) 10)]) (Or.inr rfl) ml_RX7_165 rfl (by decide) rfl rfl (Or.inl rfl) (Nat.le_of_ble_eq_true rfl) rfl dX7_summers_170 (WM_mono K (fun r h4 K => ?_)))
      obtain ⟨u5, rfl, K⟩ := K
      show J _ _ _ _ _ _ _ [vI u5, vL (Int.tmod (Int.tmod ((y3 * 1103) + 12345) 1000003) 10)] _
      refine J_i2l dX7_summers_173 ?_
      refine J_lcmp dX7_summers_174 ?_
      refine J_if_ge (tgt := 189) dX7_summers_175 (by decide) (fun c => ?_) (fun c => ?_)
      · replace K := K.1 (zc_ge.mp c)
        refine J_iinc (loc' := [some (vR (some 0)), none, some (vI y2), some (vL (Int.tmod ((y3 * 1103) + 12345) 1000003)), none, some (vI y5), some (vI (y6 + 1)), some (vI (gi h 23 y6))]) (by decide) rfl K.1 rfl dX7_summers_189 ?_
        replace K := K.2
        refine J_goto (tgt := 72) dX7_summers_192 (by decide) ?_
        exact J_forget (loc' := [some (vR (some 0)), none, some (vI y2), some (vL (Int.tmod ((y3 * 1103) + 12345) 1000003)), none, some (vI y5), some (vI (y6 + 1)), none]) (And.intro (Or.inr rfl) (And.intro (Or.inl rfl) (And.intro (Or.inr rfl) (And.intro (Or.inr rfl) (And.intro (Or.inl rfl) (And.intro (Or.inr rfl) (And.intro (Or.inr rfl) (And.intro (Or.inl rfl) True.intro)))))))) K
      · replace K := K.2 (fun z => c (zc_ge.mpr z))
        refine J_aload_n rfl dX7_summers_178 ?_
        refine J_getS (r := 16) fl_RX7_26 rfl (Or.inl rfl) rfl dX7_summers_179 ?_
        refine J_getS (r := 23) fl_RX7_129 rfl (Or.inl rfl) rfl dX7_summers_182 ?_
        refine J_iload rfl dX7_summers_185 ?_
        refine J_iconst (by decide) dX7_summers_187 ?_
        refine J_iastore (Or.inl rfl) K.1 dX7_summers_188 ?_
        replace K := K.2
        replace K := K _ rfl
        refine J_iinc (loc' := [some (vR (some 0)), none, some (vI y2), some (vL (Int.tmod ((y3 * 1103) + 12345) 1000003)), none, some (vI y5), some (vI (y6 + 1)), some (vI (gi h 23 y6))]) (by decide) rfl K.1 rfl dX7_summers_189 ?_
        replace K := K.2
        refine J_goto (tgt := 72) dX7_summers_192 (by decide) ?_
        exact J_forget (loc' := [some (vR (some 0)), none, some (vI y2), some (vL (Int.tmod ((y3 * 1103) + 12345) 1000003)), none, some (vI y5), some (vI (y6 + 1)), none]) (And.intro (Or.inr rfl) (And.intro (Or.inl rfl) (And.intro (Or.inr rfl) (And.intro (Or.inr rfl) (And.intro (Or.inl rfl) (And.intro (Or.inr rfl) (And.intro (Or.inr rfl) (And.intro (Or.inl rfl) True.intro)))))))) K
    · replace K := K.1 c
      refine J_goto (tgt := 189) dX7_summers_102 (by decide) ?_
      refine J_iinc (loc' := [some (vR (some 0)), none, some (vI y2), some (vL y3), none, some (vI y5), some (vI (y6 + 1)), some (vI (gi h 23 y6))]) (by decide) rfl K.1 rfl dX7_summers_189 ?_
      replace K := K.2
      refine J_goto (tgt := 72) dX7_summers_192 (by decide) ?_
      exact J_forget (loc' := [some (vR (some 0)), none, some (vI y2), some (vL y3), none, some (vI y5), some (vI (y6 + 1)), none]) (And.intro (Or.inr rfl) (And.intro (Or.inl rfl) (And.intro (Or.inr rfl) (And.intro (Or.inr rfl) (And.intro (Or.inl rfl) (And.intro (Or.inr rfl) (And.intro (Or.inr rfl) (And.intro (Or.inl rfl) True.intro)))))))) K
set_option maxRecDepth 20000 in
set_option maxHeartbeats 2000000 in
theorem w_X7_summers {d b : Nat} {Q : Option AV → AH → Prop} {h : AH} {x1 : Int} {x2 : Int}  (K : R32 x1 → R32 x2 → (x1 < 0 → (∀ i : Int, 0 ≤ i → i < 5 → 0 ≤ gi h 14 i ∧ gi h 14 i ≤ 1000000) ∧ ∀ h1, h1 = xRef h (-1) → Q (some (vI (-1))) h1) ∧ (¬(x1 < 0) → (1000000 < x1 → (∀ i : Int, 0 ≤ i → i < 5 → 0 ≤ gi h 14 i ∧ gi h 14 i ≤ 1000000) ∧ ∀ h2, h2 = xRef h (-1) → Q (some (vI (-1))) h2) ∧ (¬(1000000 < x1) → (x2 < 1 → (∀ i : Int, 0 ≤ i → i < 5 → 0 ≤ gi h 14 i ∧ gi h 14 i ≤ 1000000) ∧ ∀ h3, h3 = xRef h (-1) → Q (some (vI (-1))) h3) ∧ (¬(x2 < 1) → (x2 ≤ 60 → WM GX (d + 3) 0 mX0_copyFrom [vR (some 16), vR (some 1)] h (fun r h4 => r = none ∧ ∀ h5, h5 = si h4 0 4 1 → Lp_X7_summers_50 d b Q x2 x1 0 h5)) ∧ (¬(x2 ≤ 60) → (∀ i : Int, 0 ≤ i → i < 5 → 0 ≤ gi h 14 i ∧ gi h 14 i ≤ 1000000) ∧ ∀ h6, h6 = xRef h (-1) → Q (some (vI (-1))) h6))))) : WM GX (d + 4) b mX7_summers [vR (some 0), vI x1, vI x2] h Q := by
  refine WM_introE (loc' := [some (vR (some 0)), some (vI x1), some (vI x2), none, none, none, none, none]) rfl (by decide) (Nat.le_of_ble_eq_true rfl) ?_
  refine J_rgl (i := 1) rfl (fun r1 => ?_)
  replace K := K r1
  refine J_rgl (i := 2) rfl (fun r2 => ?_)
  replace K := K r2
  refine J_iload_n rfl dX7_summers_0 ?_
  refine J_if_lt (tgt := 22) dX7_summers_1 (by decide) (fun c => ?_) (fun c => ?_)
  · replace K := K.1 c
    refine J_aload_n rfl dX7_summers_22 ?_
    refine J_iconst (by decide) dX7_summers_23 ?_
    refine J_b0 (J_callV (b1 := 0) (ci := 7) (vs := [vI (-1)]) (rest := []) (Or.inl rfl) ml_RX7_88 rfl (by decide) rfl rfl (Or.inl rfl) (Nat.le_of_ble_eq_true rfl) rfl dX7_summers_24 (c_X7_refuse  K.1 ?_))
    replace K := K.2
    replace K := K _ rfl
    show J _ _ _ _ _ _ _ [vI (-1)] _
    exact J_ireturn rfl dX7_summers_27 K
  · replace K := K.2 c
    refine J_iload_n rfl dX7_summers_4 ?_
    refine J_ldcw (n := 1000000) (by decide) (by decide) kc_RX7_287 dX7_summers_5 ?_
    refine J_icmp_gt (tgt := 22) dX7_summers_8 (by decide) (fun c => ?_) (fun c => ?_)
    · replace K := K.1 c
      refine J_aload_n rfl dX7_summers_22 ?_
      refine J_iconst (by decide) dX7_summers_23 ?_
      refine J_b0 (J_callV (b1 := 0) (ci := 7) (vs := [vI (-1)]) (rest := []) (Or.inl rfl) ml_RX7_88 rfl (by decide) rfl rfl (Or.inl rfl) (Nat.le_of_ble_eq_true rfl) rfl dX7_summers_24 (c_X7_refuse  K.1 ?_))
      replace K := K.2
      replace K := K _ rfl
      show J _ _ _ _ _ _ _ [vI (-1)] _
      exact J_ireturn rfl dX7_summers_27 K
    · replace K := K.2 c
      refine J_iload_n rfl dX7_summers_11 ?_
      refine J_iconst (by decide) dX7_summers_12 ?_
      refine J_icmp_lt (tgt := 22) dX7_summers_13 (by decide) (fun c => ?_) (fun c => ?_)
      · replace K := K.1 c
        refine J_aload_n rfl dX7_summers_22 ?_
        refine J_iconst (by decide) dX7_summers_23 ?_
        refine J_b0 (J_callV (b1 := 0) (ci := 7) (vs := [vI (-1)]) (rest := []) (Or.inl rfl) ml_RX7_88 rfl (by decide) rfl rfl (Or.inl rfl) (Nat.le_of_ble_eq_true rfl) rfl dX7_summers_24 (c_X7_refuse  K.1 ?_))
        replace K := K.2
        replace K := K _ rfl
        show J _ _ _ _ _ _ _ [vI (-1)] _
        exact J_ireturn rfl dX7_summers_27 K
      · replace K := K.2 c
        refine J_iload_n rfl dX7_summers_16 ?_
        refine J_bipush (by decide) (by decide) dX7_summers_17 ?_
        refine J_icmp_le (tgt := 28) dX7_summers_19 (by decide) (fun c => ?_) (fun c => ?_)
        · replace K := K.1 c
          refine J_aload_n rfl dX7_summers_28 ?_
          refine J_getS (r := 16) fl_RX7_26 rfl (Or.inl rfl) rfl dX7_summers_29 ?_
          refine J_aload_n rfl dX7_summers_32 ?_
          refine J_getS (r := 1) fl_RX7_10 rfl (Or.inl rfl) rfl dX7_summers_33 ?_
          refine J_b0 (J_callV (b1 := 0) (ci := 0) (vs := [vR (some 1)]) (rest := []) (Or.inr rfl) ml_RX7_288 rfl (by decide) rfl rfl (Or.inl rfl) (Nat.le_of_ble_eq_true rfl) rfl dX7_summers_36 (WM_mono K (fun r h4 K => ?_)))
          obtain ⟨rfl, K⟩ := K
          show J _ _ _ _ _ _ _ [] _
          refine J_aload_n rfl dX7_summers_39 ?_
          refine J_iconst (by decide) dX7_summers_40 ?_
          refine J_putZ fl_RX7_29 rfl (by decide) (Or.inl rfl) dX7_summers_41 ?_
          replace K := K _ rfl
          refine J_iload_n rfl dX7_summers_44 ?_
          refine J_i2l dX7_summers_45 ?_
          refine J_lstore_n (loc' := [some (vR (some 0)), some (vI x1), some (vI x2), some (vL x1), none, none, none, none]) (by decide) rfl dX7_summers_46 ?_
          refine J_iconst (by decide) dX7_summers_47 ?_
          refine J_istore (loc' := [some (vR (some 0)), some (vI x1), some (vI x2), some (vL x1), none, some (vI 0), none, none]) (by decide) rfl dX7_summers_48 ?_
          exact J_forget (loc' := [some (vR (some 0)), none, some (vI x2), some (vL x1), none, some (vI 0), none, none]) (And.intro (Or.inr rfl) (And.intro (Or.inl rfl) (And.intro (Or.inr rfl) (And.intro (Or.inr rfl) (And.intro (Or.inl rfl) (And.intro (Or.inr rfl) (And.intro (Or.inl rfl) (And.intro (Or.inl rfl) True.intro)))))))) K
        · replace K := K.2 c
          refine J_aload_n rfl dX7_summers_22 ?_
          refine J_iconst (by decide) dX7_summers_23 ?_
          refine J_b0 (J_callV (b1 := 0) (ci := 7) (vs := [vI (-1)]) (rest := []) (Or.inl rfl) ml_RX7_88 rfl (by decide) rfl rfl (Or.inl rfl) (Nat.le_of_ble_eq_true rfl) rfl dX7_summers_24 (c_X7_refuse  K.1 ?_))
          replace K := K.2
          replace K := K _ rfl
          show J _ _ _ _ _ _ _ [vI (-1)] _
          exact J_ireturn rfl dX7_summers_27 K
def Lp_X8_image_23 (d b : Nat) (Q : Option AV → AH → Prop)  (y1 : Int) (y2 : Int) (h : AH) : Prop := J GM (d + 1) b mX8_image Q 23 [some (vR (some 0)), some (vI y1), some (vI y2)] [] h
set_option maxRecDepth 20000 in
set_option maxHeartbeats 2000000 in
theorem l_X8_image_23 {d b : Nat} {Q : Option AV → AH → Prop} {h : AH}  {y1 : Int} {y2 : Int}  (K : (5540 ≤ y2 → (0 ≤ y1 ∧ y1 < 2) ∧ ∀ h1, h1 = si h 4 y1 1 → (-7 < 0) ∧ (∀ i : Int, 0 ≤ i → i < 7 → 0 ≤ gi h1 1 i ∧ gi h1 1 i ≤ 1000000) ∧ ∀ h2, h2 = mTell h1 0 → Q (some (vI 0)) h2) ∧ (¬(5540 ≤ y2) → R32 (5540 * y1) ∧ R32 ((5540 * y1) + y2) ∧ (0 ≤ y2 ∧ y2 < 5540) ∧ (0 ≤ (5540 * y1) + y2 ∧ (5540 * y1) + y2 < 11080) ∧ ∀ h3, h3 = si h 3 ((5540 * y1) + y2) (gi h 2 y2) → R32 (y2 + 1) ∧ Lp_X8_image_23 d b Q y1 (y2 + 1) h3)) : Lp_X8_image_23 d b Q y1 y2 h := by
  unfold Lp_X8_image_23
  refine J_iload_n rfl dX8_image_23 ?_
  refine J_sipush (by decide) (by decide) dX8_image_24 ?_
  refine J_icmp_ge (tgt := 54) dX8_image_27 (by decide) (fun c => ?_) (fun c => ?_)
  · replace K := K.1 c
    refine J_aload_n rfl dX8_image_54 ?_
    refine J_getS (r := 4) fl_RX8_19 rfl (Or.inl rfl) rfl dX8_image_55 ?_
    refine J_iload_n rfl dX8_image_58 ?_
    refine J_iconst (by decide) dX8_image_59 ?_
    refine J_bastore (Or.inl rfl) K.1 (by decide) dX8_image_60 ?_
    replace K := K.2
    replace K := K _ rfl
    refine J_aload_n rfl dX8_image_61 ?_
    refine J_iconst (by decide) dX8_image_62 ?_
    refine J_b0 (J_callV (b1 := 0) (ci := 8) (vs := [vI 0]) (rest := []) (Or.inl rfl) ml_RX8_170 rfl (by decide) rfl rfl (Or.inl rfl) (Nat.le_of_ble_eq_true rfl) rfl dX8_image_63 (c_X8_tell  K.1 K.2.1 ?_))
    replace K := K.2.2
    replace K := K _ rfl
    show J _ _ _ _ _ _ _ [vI 0] _
    exact J_ireturn rfl dX8_image_66 K
  · replace K := K.2 c
    refine J_aload_n rfl dX8_image_30 ?_
    refine J_getS (r := 3) fl_RX8_16 rfl (Or.inl rfl) rfl dX8_image_31 ?_
    refine J_sipush (by decide) (by decide) dX8_image_34 ?_
    refine J_iload_n rfl dX8_image_37 ?_
    refine J_imul K.1 dX8_image_38 ?_
    replace K := K.2
    refine J_iload_n rfl dX8_image_39 ?_
    refine J_iadd K.1 dX8_image_40 ?_
    replace K := K.2
    refine J_aload_n rfl dX8_image_41 ?_
    refine J_getS (r := 2) fl_RX8_13 rfl (Or.inl rfl) rfl dX8_image_42 ?_
    refine J_iload_n rfl dX8_image_45 ?_
    refine J_iaload (Or.inl rfl) K.1 dX8_image_46 ?_
    replace K := K.2
    refine J_iastore (Or.inl rfl) K.1 dX8_image_47 ?_
    replace K := K.2
    replace K := K _ rfl
    refine J_iinc (loc' := [some (vR (some 0)), some (vI y1), some (vI (y2 + 1))]) (by decide) rfl K.1 rfl dX8_image_48 ?_
    replace K := K.2
    refine J_goto (tgt := 23) dX8_image_51 (by decide) ?_
    exact J_forget (loc' := [some (vR (some 0)), some (vI y1), some (vI (y2 + 1))]) (And.intro (Or.inr rfl) (And.intro (Or.inr rfl) (And.intro (Or.inr rfl) True.intro))) K
set_option maxRecDepth 20000 in
set_option maxHeartbeats 2000000 in
theorem w_X8_image {d b : Nat} {Q : Option AV → AH → Prop} {h : AH} {x1 : Int}  (K : R32 x1 → ∀ h1, h1 = si h 0 0 0 → (0 ≤ x1 ∧ x1 ≤ 1 → Lp_X8_image_23 d b Q x1 0 h1) ∧ (¬(0 ≤ x1 ∧ x1 ≤ 1) → (-7 < (-1)) ∧ (∀ i : Int, 0 ≤ i → i < 7 → 0 ≤ gi h1 1 i ∧ gi h1 1 i ≤ 1000000) ∧ ∀ h2, h2 = mTell h1 (-1) → Q (some (vI (-1))) h2)) : WM GM (d + 1) b mX8_image [vR (some 0), vI x1] h Q := by
  refine WM_introE (loc' := [some (vR (some 0)), some (vI x1), none]) rfl (by decide) (Nat.le_of_ble_eq_true rfl) ?_
  refine J_rgl (i := 1) rfl (fun r1 => ?_)
  replace K := K r1
  refine J_aload_n rfl dX8_image_0 ?_
  refine J_iconst (by decide) dX8_image_1 ?_
  refine J_putI fl_RX8_161 rfl (Or.inl rfl) dX8_image_2 ?_
  replace K := K _ rfl
  refine J_iload_n rfl dX8_image_5 ?_
  refine J_i2l dX8_image_6 ?_
  refine J_lconst (x := 0) (by decide) (by decide) dX8_image_7 ?_
  refine J_lconst (x := 1) (by decide) (by decide) dX8_image_8 ?_
  refine J_b0 (J_callS (b1 := 0) (vs := [vL x1, vL 0, vL 1]) (rest := []) (Or.inl rfl) ml_RX8_181 rfl (by decide) (Nat.le_of_ble_eq_true rfl) rfl dX8_image_9 (c_X8_in   ?_))
  show J _ _ _ _ _ _ _ [vI (b2i (0 ≤ x1 ∧ x1 ≤ 1))] _
  refine J_if_ne (tgt := 21) dX8_image_12 (by decide) (fun c => ?_) (fun c => ?_)
  · replace K := K.1 (b2i_n0.mp c)
    refine J_iconst (by decide) dX8_image_21 ?_
    refine J_istore_n (loc' := [some (vR (some 0)), some (vI x1), some (vI 0)]) (by decide) rfl dX8_image_22 ?_
    exact J_forget (loc' := [some (vR (some 0)), some (vI x1), some (vI 0)]) (And.intro (Or.inr rfl) (And.intro (Or.inr rfl) (And.intro (Or.inr rfl) True.intro))) K
  · replace K := K.2 (b2i_0.mp c)
    refine J_aload_n rfl dX8_image_15 ?_
    refine J_iconst (by decide) dX8_image_16 ?_
    refine J_b0 (J_callV (b1 := 0) (ci := 8) (vs := [vI (-1)]) (rest := []) (Or.inl rfl) ml_RX8_170 rfl (by decide) rfl rfl (Or.inl rfl) (Nat.le_of_ble_eq_true rfl) rfl dX8_image_17 (c_X8_tell  K.1 K.2.1 ?_))
    replace K := K.2.2
    replace K := K _ rfl
    show J _ _ _ _ _ _ _ [vI (-1)] _
    exact J_ireturn rfl dX8_image_20 K
def Lp_X8_back_39 (d b : Nat) (Q : Option AV → AH → Prop)  (y1 : Int) (y2 : Int) (h : AH) : Prop := J GM (d + 2) b mX8_back Q 39 [some (vR (some 0)), some (vI y1), some (vI y2)] [] h
set_option maxRecDepth 20000 in
set_option maxHeartbeats 2000000 in
theorem l_X8_back_39 {d b : Nat} {Q : Option AV → AH → Prop} {h : AH}  {y1 : Int} {y2 : Int}  (K : (5540 ≤ y2 → (-7 < 0) ∧ (∀ i : Int, 0 ≤ i → i < 7 → 0 ≤ gi h 1 i ∧ gi h 1 i ≤ 1000000) ∧ ∀ h1, h1 = mTell (si h 0 8 (if 0 < 0 then gi h 0 8 else 0)) 0 → Q (some (vI 0)) h1) ∧ (¬(5540 ≤ y2) → R32 (5540 * y1) ∧ R32 ((5540 * y1) + y2) ∧ (0 ≤ (5540 * y1) + y2 ∧ (5540 * y1) + y2 < 11080) ∧ (0 ≤ y2 ∧ y2 < 5540) ∧ ∀ h2, h2 = si h 2 y2 (gi h 3 ((5540 * y1) + y2)) → R32 (y2 + 1) ∧ Lp_X8_back_39 d b Q y1 (y2 + 1) h2)) : Lp_X8_back_39 d b Q y1 y2 h := by
  unfold Lp_X8_back_39
  refine J_iload_n rfl dX8_back_39 ?_
  refine J_sipush (by decide) (by decide) dX8_back_40 ?_
  refine J_icmp_ge (tgt := 70) dX8_back_43 (by decide) (fun c => ?_) (fun c => ?_)
  · replace K := K.1 c
    refine J_aload_n rfl dX8_back_70 ?_
    refine J_iconst (by decide) dX8_back_71 ?_
    refine J_b0 (J_callV (b1 := 0) (ci := 8) (vs := [vI 0]) (rest := []) (Or.inl rfl) ml_RX8_185 rfl (by decide) rfl rfl (Or.inl rfl) (Nat.le_of_ble_eq_true rfl) rfl dX8_back_72 (c_X8_settled  K.1 K.2.1 ?_))
    replace K := K.2.2
    replace K := K _ rfl
    show J _ _ _ _ _ _ _ [vI 0] _
    exact J_ireturn rfl dX8_back_75 K
  · replace K := K.2 c
    refine J_aload_n rfl dX8_back_46 ?_
    refine J_getS (r := 2) fl_RX8_13 rfl (Or.inl rfl) rfl dX8_back_47 ?_
    refine J_iload_n rfl dX8_back_50 ?_
    refine J_aload_n rfl dX8_back_51 ?_
    refine J_getS (r := 3) fl_RX8_16 rfl (Or.inl rfl) rfl dX8_back_52 ?_
    refine J_sipush (by decide) (by decide) dX8_back_55 ?_
    refine J_iload_n rfl dX8_back_58 ?_
    refine J_imul K.1 dX8_back_59 ?_
    replace K := K.2
    refine J_iload_n rfl dX8_back_60 ?_
    refine J_iadd K.1 dX8_back_61 ?_
    replace K := K.2
    refine J_iaload (Or.inl rfl) K.1 dX8_back_62 ?_
    replace K := K.2
    refine J_iastore (Or.inl rfl) K.1 dX8_back_63 ?_
    replace K := K.2
    replace K := K _ rfl
    refine J_iinc (loc' := [some (vR (some 0)), some (vI y1), some (vI (y2 + 1))]) (by decide) rfl K.1 rfl dX8_back_64 ?_
    replace K := K.2
    refine J_goto (tgt := 39) dX8_back_67 (by decide) ?_
    exact J_forget (loc' := [some (vR (some 0)), some (vI y1), some (vI (y2 + 1))]) (And.intro (Or.inr rfl) (And.intro (Or.inr rfl) (And.intro (Or.inr rfl) True.intro))) K
set_option maxRecDepth 20000 in
set_option maxHeartbeats 2000000 in
theorem w_X8_back {d b : Nat} {Q : Option AV → AH → Prop} {h : AH} {x1 : Int}  (K : R32 x1 → ∀ h1, h1 = si h 0 0 0 → (0 ≤ x1 ∧ x1 ≤ 1 → (0 ≤ x1 ∧ x1 < 2) ∧ (gi h 4 x1 = 0 → (-7 < (-2)) ∧ (∀ i : Int, 0 ≤ i → i < 7 → 0 ≤ gi h1 1 i ∧ gi h1 1 i ≤ 1000000) ∧ ∀ h2, h2 = mTell h1 (-2) → Q (some (vI (-2))) h2) ∧ (¬(gi h 4 x1 = 0) → Lp_X8_back_39 d b Q x1 0 h1)) ∧ (¬(0 ≤ x1 ∧ x1 ≤ 1) → (-7 < (-1)) ∧ (∀ i : Int, 0 ≤ i → i < 7 → 0 ≤ gi h1 1 i ∧ gi h1 1 i ≤ 1000000) ∧ ∀ h3, h3 = mTell h1 (-1) → Q (some (vI (-1))) h3)) : WM GM (d + 2) b mX8_back [vR (some 0), vI x1] h Q := by
  refine WM_introE (loc' := [some (vR (some 0)), some (vI x1), none]) rfl (by decide) (Nat.le_of_ble_eq_true rfl) ?_
  refine J_rgl (i := 1) rfl (fun r1 => ?_)
  replace K := K r1
  refine J_aload_n rfl dX8_back_0 ?_
  refine J_iconst (by decide) dX8_back_1 ?_
  refine J_putI fl_RX8_161 rfl (Or.inl rfl) dX8_back_2 ?_
  replace K := K _ rfl
  refine J_iload_n rfl dX8_back_5 ?_
  refine J_i2l dX8_back_6 ?_
  refine J_lconst (x := 0) (by decide) (by decide) dX8_back_7 ?_
  refine J_lconst (x := 1) (by decide) (by decide) dX8_back_8 ?_
  refine J_b0 (J_callS (b1 := 0) (vs := [vL x1, vL 0, vL 1]) (rest := []) (Or.inl rfl) ml_RX8_181 rfl (by decide) (Nat.le_of_ble_eq_true rfl) rfl dX8_back_9 (c_X8_in   ?_))
  show J _ _ _ _ _ _ _ [vI (b2i (0 ≤ x1 ∧ x1 ≤ 1))] _
  refine J_if_ne (tgt := 21) dX8_back_12 (by decide) (fun c => ?_) (fun c => ?_)
  · replace K := K.1 (b2i_n0.mp c)
    refine J_aload_n rfl dX8_back_21 ?_
    refine J_getS (r := 4) fl_RX8_19 rfl (Or.inl rfl) rfl dX8_back_22 ?_
    refine J_iload_n rfl dX8_back_25 ?_
    refine J_baloade (Or.inl rfl) K.1 (gi_no (by decide)) dX8_back_26 ?_
    replace K := K.2
    refine J_if_ne (tgt := 37) dX8_back_27 (by decide) (fun c => ?_) (fun c => ?_)
    · replace K := K.2 c
      refine J_iconst (by decide) dX8_back_37 ?_
      refine J_istore_n (loc' := [some (vR (some 0)), some (vI x1), some (vI 0)]) (by decide) rfl dX8_back_38 ?_
      exact J_forget (loc' := [some (vR (some 0)), some (vI x1), some (vI 0)]) (And.intro (Or.inr rfl) (And.intro (Or.inr rfl) (And.intro (Or.inr rfl) True.intro))) K
    · replace K := K.1 c
      refine J_aload_n rfl dX8_back_30 ?_
      refine J_bipush (by decide) (by decide) dX8_back_31 ?_
      refine J_b0 (J_callV (b1 := 0) (ci := 8) (vs := [vI (-2)]) (rest := []) (Or.inl rfl) ml_RX8_170 rfl (by decide) rfl rfl (Or.inl rfl) (Nat.le_of_ble_eq_true rfl) rfl dX8_back_33 (c_X8_tell  K.1 K.2.1 ?_))
      replace K := K.2.2
      replace K := K _ rfl
      show J _ _ _ _ _ _ _ [vI (-2)] _
      exact J_ireturn rfl dX8_back_36 K
  · replace K := K.2 (b2i_0.mp c)
    refine J_aload_n rfl dX8_back_15 ?_
    refine J_iconst (by decide) dX8_back_16 ?_
    refine J_b0 (J_callV (b1 := 0) (ci := 8) (vs := [vI (-1)]) (rest := []) (Or.inl rfl) ml_RX8_170 rfl (by decide) rfl rfl (Or.inl rfl) (Nat.le_of_ble_eq_true rfl) rfl dX8_back_17 (c_X8_tell  K.1 K.2.1 ?_))
    replace K := K.2.2
    replace K := K _ rfl
    show J _ _ _ _ _ _ _ [vI (-1)] _
    exact J_ireturn rfl dX8_back_20 K
def Lp_X8_summers_52 (d b : Nat) (Q : Option AV → AH → Prop)  (y2 : Int) (y3 : Int) (y4 : Int) (h : AH) : Prop := J GM (d + 7) b mX8_summers Q 52 [some (vR (some 0)), none, some (vI y2), some (vI y3), some (vI y4), none] [] h
def Lp_X8_summers_166 (d b : Nat) (Q : Option AV → AH → Prop)  (y3 : Int) (y4 : Int) (h : AH) : Prop := J GM (d + 7) b mX8_summers Q 166 [some (vR (some 0)), none, none, some (vI y3), some (vI y4), none] [] h
def Lp_X8_summers_73 (d b : Nat) (Q : Option AV → AH → Prop)  (y2 : Int) (y3 : Int) (y4 : Int) (y5 : Int) (h : AH) : Prop := J GM (d + 7) b mX8_summers Q 73 [some (vR (some 0)), none, some (vI y2), some (vI y3), some (vI y4), some (vI y5)] [] h
def Lp_X8_summers_224 (d b : Nat) (Q : Option AV → AH → Prop)  (y3 : Int) (y4 : Int) (h : AH) : Prop := J GM (d + 7) b mX8_summers Q 224 [some (vR (some 0)), none, none, some (vI y3), some (vI y4), none] [] h
set_option maxRecDepth 20000 in
set_option maxHeartbeats 2000000 in
theorem l_X8_summers_52 {d b : Nat} {Q : Option AV → AH → Prop} {h : AH}  {y2 : Int} {y3 : Int} {y4 : Int}  (K : (y2 ≤ y4 → ∀ h1, h1 = si h 0 57 (gi h 2 1) → Lp_X8_summers_166 d b Q y3 0 h1) ∧ (¬(y2 ≤ y4) → (999 ≤ gi h 2 5 → ∀ h2, h2 = si h 0 57 (gi h 2 1) → Lp_X8_summers_166 d b Q y3 0 h2) ∧ (¬(999 ≤ gi h 2 5) → Lp_X8_summers_73 d b Q y2 y3 y4 0 h))) : Lp_X8_summers_52 d b Q y2 y3 y4 h := by
  unfold Lp_X8_summers_52
  refine J_iload rfl dX8_summers_52 ?_
  refine J_iload_n rfl dX8_summers_54 ?_
  refine J_icmp_ge (tgt := 153) dX8_summers_55 (by decide) (fun c => ?_) (fun c => ?_)
  · replace K := K.1 c
    refine J_aload_n rfl dX8_summers_153 ?_
    refine J_aload_n rfl dX8_summers_154 ?_
    refine J_getS (r := 2) fl_RX8_13 rfl (Or.inl rfl) rfl dX8_summers_155 ?_
    refine J_iconst (by decide) dX8_summers_158 ?_
    refine J_iaload (Or.inl rfl) (by decide) dX8_summers_159 ?_
    refine J_putI fl_RX8_158 rfl (Or.inl rfl) dX8_summers_160 ?_
    replace K := K _ rfl
    refine J_iconst (by decide) dX8_summers_163 ?_
    refine J_istore (loc' := [some (vR (some 0)), none, some (vI y2), some (vI y3), some (vI 0), none]) (by decide) rfl dX8_summers_164 ?_
    exact J_forget (loc' := [some (vR (some 0)), none, none, some (vI y3), some (vI 0), none]) (And.intro (Or.inr rfl) (And.intro (Or.inl rfl) (And.intro (Or.inl rfl) (And.intro (Or.inr rfl) (And.intro (Or.inr rfl) (And.intro (Or.inl rfl) True.intro)))))) K
  · replace K := K.2 c
    refine J_aload_n rfl dX8_summers_58 ?_
    refine J_getS (r := 2) fl_RX8_13 rfl (Or.inl rfl) rfl dX8_summers_59 ?_
    refine J_iconst (by decide) dX8_summers_62 ?_
    refine J_iaload (Or.inl rfl) (by decide) dX8_summers_63 ?_
    refine J_sipush (by decide) (by decide) dX8_summers_64 ?_
    refine J_icmp_ge (tgt := 153) dX8_summers_67 (by decide) (fun c => ?_) (fun c => ?_)
    · replace K := K.1 c
      refine J_aload_n rfl dX8_summers_153 ?_
      refine J_aload_n rfl dX8_summers_154 ?_
      refine J_getS (r := 2) fl_RX8_13 rfl (Or.inl rfl) rfl dX8_summers_155 ?_
      refine J_iconst (by decide) dX8_summers_158 ?_
      refine J_iaload (Or.inl rfl) (by decide) dX8_summers_159 ?_
      refine J_putI fl_RX8_158 rfl (Or.inl rfl) dX8_summers_160 ?_
      replace K := K _ rfl
      refine J_iconst (by decide) dX8_summers_163 ?_
      refine J_istore (loc' := [some (vR (some 0)), none, some (vI y2), some (vI y3), some (vI 0), none]) (by decide) rfl dX8_summers_164 ?_
      exact J_forget (loc' := [some (vR (some 0)), none, none, some (vI y3), some (vI 0), none]) (And.intro (Or.inr rfl) (And.intro (Or.inl rfl) (And.intro (Or.inl rfl) (And.intro (Or.inr rfl) (And.intro (Or.inr rfl) (And.intro (Or.inl rfl) True.intro)))))) K
    · replace K := K.2 c
      refine J_iconst (by decide) dX8_summers_70 ?_
      refine J_istore (loc' := [some (vR (some 0)), none, some (vI y2), some (vI y3), some (vI y4), some (vI 0)]) (by decide) rfl dX8_summers_71 ?_
      exact J_forget (loc' := [some (vR (some 0)), none, some (vI y2), some (vI y3), some (vI y4), some (vI 0)]) (And.intro (Or.inr rfl) (And.intro (Or.inl rfl) (And.intro (Or.inr rfl) (And.intro (Or.inr rfl) (And.intro (Or.inr rfl) (And.intro (Or.inr rfl) True.intro)))))) K
set_option maxRecDepth 20000 in
set_option maxHeartbeats 2000000 in
theorem l_X8_summers_166 {d b : Nat} {Q : Option AV → AH → Prop} {h : AH}  {y3 : Int} {y4 : Int}  (K : (gi h 0 57 ≤ y4 → Lp_X8_summers_224 d b Q y3 0 h) ∧ (¬(gi h 0 57 ≤ y4) → R32 (2 * y4) ∧ R32 (15 + y4) ∧ (0 ≤ 15 + y4 ∧ 15 + y4 < 5540) ∧ (0 ≤ 2 * y4 ∧ 2 * y4 < 16) ∧ ∀ h1, h1 = si h 30 (2 * y4) (gi h 2 (15 + y4)) → R32 (2 * y4) ∧ R32 ((2 * y4) + 1) ∧ R32 (23 + y4) ∧ (0 ≤ 23 + y4 ∧ 23 + y4 < 5540) ∧ (0 ≤ (2 * y4) + 1 ∧ (2 * y4) + 1 < 16) ∧ ∀ h2, h2 = si h1 30 ((2 * y4) + 1) (gi h 2 (23 + y4)) → R32 (y4 + 1) ∧ Lp_X8_summers_166 d b Q y3 (y4 + 1) h2)) : Lp_X8_summers_166 d b Q y3 y4 h := by
  unfold Lp_X8_summers_166
  refine J_iload rfl dX8_summers_166 ?_
  refine J_aload_n rfl dX8_summers_168 ?_
  refine J_getI fl_RX8_158 rfl (Or.inl rfl) dX8_summers_169 ?_
  refine J_icmp_ge (tgt := 221) dX8_summers_172 (by decide) (fun c => ?_) (fun c => ?_)
  · replace K := K.1 c
    refine J_iconst (by decide) dX8_summers_221 ?_
    refine J_istore (loc' := [some (vR (some 0)), none, none, some (vI y3), some (vI 0), none]) (by decide) rfl dX8_summers_222 ?_
    exact J_forget (loc' := [some (vR (some 0)), none, none, some (vI y3), some (vI 0), none]) (And.intro (Or.inr rfl) (And.intro (Or.inl rfl) (And.intro (Or.inl rfl) (And.intro (Or.inr rfl) (And.intro (Or.inr rfl) (And.intro (Or.inl rfl) True.intro)))))) K
  · replace K := K.2 c
    refine J_aload_n rfl dX8_summers_175 ?_
    refine J_getS (r := 30) fl_RX8_152 rfl (Or.inl rfl) rfl dX8_summers_176 ?_
    refine J_iconst (by decide) dX8_summers_179 ?_
    refine J_iload rfl dX8_summers_180 ?_
    refine J_imul K.1 dX8_summers_182 ?_
    replace K := K.2
    refine J_aload_n rfl dX8_summers_183 ?_
    refine J_getS (r := 2) fl_RX8_13 rfl (Or.inl rfl) rfl dX8_summers_184 ?_
    refine J_bipush (by decide) (by decide) dX8_summers_187 ?_
    refine J_iload rfl dX8_summers_189 ?_
    refine J_iadd K.1 dX8_summers_191 ?_
    replace K := K.2
    refine J_iaload (Or.inl rfl) K.1 dX8_summers_192 ?_
    replace K := K.2
    refine J_iastore (Or.inl rfl) K.1 dX8_summers_193 ?_
    replace K := K.2
    replace K := K _ rfl
    refine J_aload_n rfl dX8_summers_194 ?_
    refine J_getS (r := 30) fl_RX8_152 rfl (Or.inl rfl) rfl dX8_summers_195 ?_
    refine J_iconst (by decide) dX8_summers_198 ?_
    refine J_iload rfl dX8_summers_199 ?_
    refine J_imul K.1 dX8_summers_201 ?_
    replace K := K.2
    refine J_iconst (by decide) dX8_summers_202 ?_
    refine J_iadd K.1 dX8_summers_203 ?_
    replace K := K.2
    refine J_aload_n rfl dX8_summers_204 ?_
    refine J_getS (r := 2) fl_RX8_13 rfl (Or.inl rfl) rfl dX8_summers_205 ?_
    refine J_bipush (by decide) (by decide) dX8_summers_208 ?_
    refine J_iload rfl dX8_summers_210 ?_
    refine J_iadd K.1 dX8_summers_212 ?_
    replace K := K.2
    refine J_ialoade (Or.inl rfl) K.1 (gi_no (by decide)) dX8_summers_213 ?_
    replace K := K.2
    refine J_iastore (Or.inl rfl) K.1 dX8_summers_214 ?_
    replace K := K.2
    replace K := K _ rfl
    refine J_iinc (loc' := [some (vR (some 0)), none, none, some (vI y3), some (vI (y4 + 1)), none]) (by decide) rfl K.1 rfl dX8_summers_215 ?_
    replace K := K.2
    refine J_goto (tgt := 166) dX8_summers_218 (by decide) ?_
    exact J_forget (loc' := [some (vR (some 0)), none, none, some (vI y3), some (vI (y4 + 1)), none]) (And.intro (Or.inr rfl) (And.intro (Or.inl rfl) (And.intro (Or.inl rfl) (And.intro (Or.inr rfl) (And.intro (Or.inr rfl) (And.intro (Or.inl rfl) True.intro)))))) K
set_option maxRecDepth 20000 in
set_option maxHeartbeats 2000000 in
theorem l_X8_summers_73 {d b : Nat} {Q : Option AV → AH → Prop} {h : AH}  {y2 : Int} {y3 : Int} {y4 : Int} {y5 : Int}  (K : (gi h 2 1 ≤ y5 → WM GM (d + 6) 0 mX8_tideIt [vR (some 0)] h (fun r h1 => ∃ u2, r = some (vI u2) ∧ R32 (y3 + u2) ∧ R32 (y4 + 1) ∧ Lp_X8_summers_52 d b Q y2 (y3 + u2) (y4 + 1) h1)) ∧ (¬(gi h 2 1 ≤ y5) → ((0 : Int) ≤ y5 ∧ (y5 : Int) < 8) ∧ (gi h 2 (15 + y5) ≠ -1 → WM GM (d + 6) 0 mX8_fishIt [vR (some 0), vI y5] h (fun r h2 => ∃ u3, r = some (vI u3) ∧ WM GM (d + 6) 0 mX8_draw [vR (some 0), vI 10] h2 (fun r h3 => ∃ u4, r = some (vI u4) ∧ R32 (15 + y5) ∧ (0 ≤ 15 + y5 ∧ 15 + y5 < 5540) ∧ WM GM (d + 6) 0 mX8_slams [vR (some 0), vI y5, vI (gi h3 2 (15 + y5))] h3 (fun r h4 => ∃ u5, r = some (vI u5) ∧ (u5 ≤ u4 → R32 (y5 + 1) ∧ Lp_X8_summers_73 d b Q y2 y3 y4 (y5 + 1) h4) ∧ (¬(u5 ≤ u4) → ((0 : Int) ≤ y5 ∧ (y5 : Int) < 8) ∧ ∀ h5, h5 = si (si h4 2 (15 + y5) (-1)) 2 (31 + y5) 1 → R32 (y3 + 1) ∧ R32 (y5 + 1) ∧ Lp_X8_summers_73 d b Q y2 (y3 + 1) y4 (y5 + 1) h5))))) ∧ (¬(gi h 2 (15 + y5) ≠ -1) → R32 (y5 + 1) ∧ Lp_X8_summers_73 d b Q y2 y3 y4 (y5 + 1) h))) : Lp_X8_summers_73 d b Q y2 y3 y4 y5 h := by
  unfold Lp_X8_summers_73
  refine J_iload rfl dX8_summers_73 ?_
  refine J_aload_n rfl dX8_summers_75 ?_
  refine J_getS (r := 2) fl_RX8_13 rfl (Or.inl rfl) rfl dX8_summers_76 ?_
  refine J_iconst (by decide) dX8_summers_79 ?_
  refine J_iaload (Or.inl rfl) (by decide) dX8_summers_80 ?_
  refine J_icmp_ge (tgt := 140) dX8_summers_81 (by decide) (fun c => ?_) (fun c => ?_)
  · replace K := K.1 c
    refine J_iload_n rfl dX8_summers_140 ?_
    refine J_aload_n rfl dX8_summers_141 ?_
    refine J_b0 (J_callV (b1 := 0) (ci := 8) (vs := []) (rest := [vI y3]) (Or.inl rfl) ml_RX8_462 rfl (by decide) rfl rfl (Or.inl rfl) (Nat.le_of_ble_eq_true rfl) rfl dX8_summers_142 (WM_mono K (fun r h1 K => ?_)))
    obtain ⟨u2, rfl, K⟩ := K
    show J _ _ _ _ _ _ _ [vI u2, vI y3] _
    refine J_iadd K.1 dX8_summers_145 ?_
    replace K := K.2
    refine J_istore_n (loc' := [some (vR (some 0)), none, some (vI y2), some (vI (y3 + u2)), some (vI y4), some (vI y5)]) (by decide) rfl dX8_summers_146 ?_
    refine J_iinc (loc' := [some (vR (some 0)), none, some (vI y2), some (vI (y3 + u2)), some (vI (y4 + 1)), some (vI y5)]) (by decide) rfl K.1 rfl dX8_summers_147 ?_
    replace K := K.2
    refine J_goto (tgt := 52) dX8_summers_150 (by decide) ?_
    exact J_forget (loc' := [some (vR (some 0)), none, some (vI y2), some (vI (y3 + u2)), some (vI (y4 + 1)), none]) (And.intro (Or.inr rfl) (And.intro (Or.inl rfl) (And.intro (Or.inr rfl) (And.intro (Or.inr rfl) (And.intro (Or.inr rfl) (And.intro (Or.inl rfl) True.intro)))))) K
  · replace K := K.2 c
    refine J_aload_n rfl dX8_summers_84 ?_
    refine J_iload rfl dX8_summers_85 ?_
    refine J_b0 (J_callV (b1 := 0) (ci := 8) (vs := [vI y5]) (rest := []) (Or.inl rfl) ml_RX8_441 rfl (by decide) rfl rfl (Or.inl rfl) (Nat.le_of_ble_eq_true rfl) rfl dX8_summers_87 (c_X8_isAtSea  K.1 ?_))
    replace K := K.2
    show J _ _ _ _ _ _ _ [vI (b2i (gi h 2 (15 + y5) ≠ -1))] _
    refine J_if_eq (tgt := 134) dX8_summers_90 (by decide) (fun c => ?_) (fun c => ?_)
    · replace K := K.2 (b2i_0.mp c)
      refine J_iinc (loc' := [some (vR (some 0)), none, some (vI y2), some (vI y3), some (vI y4), some (vI (y5 + 1))]) (by decide) rfl K.1 rfl dX8_summers_134 ?_
      replace K := K.2
      refine J_goto (tgt := 73) dX8_summers_137 (by decide) ?_
      exact J_forget (loc' := [some (vR (some 0)), none, some (vI y2), some (vI y3), some (vI y4), some (vI (y5 + 1))]) (And.intro (Or.inr rfl) (And.intro (Or.inl rfl) (And.intro (Or.inr rfl) (And.intro (Or.inr rfl) (And.intro (Or.inr rfl) (And.intro (Or.inr rfl) True.intro)))))) K
    · replace K := K.1 (b2i_n0.mp c)
      refine J_aload_n rfl dX8_summers_93 ?_
      refine J_iload rfl dX8_summers_94 ?_
      refine J_b0 (J_callV (b1 := 0) (ci := 8) (vs := [vI y5]) (rest := []) (Or.inl rfl) ml_RX8_450 rfl (by decide) rfl rfl (Or.inl rfl) (Nat.le_of_ble_eq_true rfl) rfl dX8_summers_96 (WM_mono K (fun r h2 K => ?_)))
      obtain ⟨u3, rfl, K⟩ := K
      show J _ _ _ _ _ _ _ [vI u3] _
      refine J_pop rfl dX8_summers_99 ?_
      refine J_aload_n rfl dX8_summers_100 ?_
      refine J_bipush (by decide) (by decide) dX8_summers_101 ?_
      refine J_b0 (J_callV (b1 := 0) (ci := 8) (vs := [vI 10]) (rest := []) (Or.inl rfl) ml_RX8_559 rfl (by decide) rfl rfl (Or.inl rfl) (Nat.le_of_ble_eq_true rfl) rfl dX8_summers_103 (WM_mono K (fun r h3 K => ?_)))
      obtain ⟨u4, rfl, K⟩ := K
      show J _ _ _ _ _ _ _ [vI u4] _
      refine J_aload_n rfl dX8_summers_106 ?_
      refine J_iload rfl dX8_summers_107 ?_
      refine J_aload_n rfl dX8_summers_109 ?_
      refine J_getS (r := 2) fl_RX8_13 rfl (Or.inl rfl) rfl dX8_summers_110 ?_
      refine J_bipush (by decide) (by decide) dX8_summers_113 ?_
      refine J_iload rfl dX8_summers_115 ?_
      refine J_iadd K.1 dX8_summers_117 ?_
      replace K := K.2
      refine J_iaload (Or.inl rfl) K.1 dX8_summers_118 ?_
      replace K := K.2
      refine J_b0 (J_callV (b1 := 0) (ci := 8) (vs := [vI y5, vI _]) (rest := [vI u4]) (Or.inl rfl) ml_RX8_233 rfl (by decide) rfl rfl (Or.inl rfl) (Nat.le_of_ble_eq_true rfl) rfl dX8_summers_119 (WM_mono K (fun r h4 K => ?_)))
      obtain ⟨u5, rfl, K⟩ := K
      show J _ _ _ _ _ _ _ [vI u5, vI u4] _
      refine J_icmp_ge (tgt := 134) dX8_summers_122 (by decide) (fun c => ?_) (fun c => ?_)
      · replace K := K.1 c
        refine J_iinc (loc' := [some (vR (some 0)), none, some (vI y2), some (vI y3), some (vI y4), some (vI (y5 + 1))]) (by decide) rfl K.1 rfl dX8_summers_134 ?_
        replace K := K.2
        refine J_goto (tgt := 73) dX8_summers_137 (by decide) ?_
        exact J_forget (loc' := [some (vR (some 0)), none, some (vI y2), some (vI y3), some (vI y4), some (vI (y5 + 1))]) (And.intro (Or.inr rfl) (And.intro (Or.inl rfl) (And.intro (Or.inr rfl) (And.intro (Or.inr rfl) (And.intro (Or.inr rfl) (And.intro (Or.inr rfl) True.intro)))))) K
      · replace K := K.2 c
        refine J_aload_n rfl dX8_summers_125 ?_
        refine J_iload rfl dX8_summers_126 ?_
        refine J_b0 (J_callV (b1 := 0) (ci := 8) (vs := [vI y5]) (rest := []) (Or.inl rfl) ml_RX8_459 rfl (by decide) rfl rfl (Or.inl rfl) (Nat.le_of_ble_eq_true rfl) rfl dX8_summers_128 (c_X8_lose  K.1 ?_))
        replace K := K.2
        replace K := K _ rfl
        show J _ _ _ _ _ _ _ [] _
        refine J_iinc (loc' := [some (vR (some 0)), none, some (vI y2), some (vI (y3 + 1)), some (vI y4), some (vI y5)]) (by decide) rfl K.1 rfl dX8_summers_131 ?_
        replace K := K.2
        refine J_iinc (loc' := [some (vR (some 0)), none, some (vI y2), some (vI (y3 + 1)), some (vI y4), some (vI (y5 + 1))]) (by decide) rfl K.1 rfl dX8_summers_134 ?_
        replace K := K.2
        refine J_goto (tgt := 73) dX8_summers_137 (by decide) ?_
        exact J_forget (loc' := [some (vR (some 0)), none, some (vI y2), some (vI (y3 + 1)), some (vI y4), some (vI (y5 + 1))]) (And.intro (Or.inr rfl) (And.intro (Or.inl rfl) (And.intro (Or.inr rfl) (And.intro (Or.inr rfl) (And.intro (Or.inr rfl) (And.intro (Or.inr rfl) True.intro)))))) K
set_option maxRecDepth 20000 in
set_option maxHeartbeats 2000000 in
theorem l_X8_summers_224 {d b : Nat} {Q : Option AV → AH → Prop} {h : AH}  {y3 : Int} {y4 : Int}  (K : (25 ≤ y4 → WM GM (d + 6) 0 mX8_putBack [vR (some 0), vI 16] h (fun r h1 => r = none ∧ (-7 < y3) ∧ (∀ i : Int, 0 ≤ i → i < 7 → 0 ≤ gi h1 1 i ∧ gi h1 1 i ≤ 1000000) ∧ ∀ h2, h2 = mTell h1 y3 → Q (some (vI y3)) h2)) ∧ (¬(25 ≤ y4) → R32 (39 + y4) ∧ (0 ≤ 39 + y4 ∧ 39 + y4 < 5540) ∧ (0 ≤ y4 ∧ y4 < 25) ∧ ∀ h3, h3 = si h 31 y4 (gi h 2 (39 + y4)) → R32 (y4 + 1) ∧ Lp_X8_summers_224 d b Q y3 (y4 + 1) h3)) : Lp_X8_summers_224 d b Q y3 y4 h := by
  unfold Lp_X8_summers_224
  refine J_iload rfl dX8_summers_224 ?_
  refine J_bipush (by decide) (by decide) dX8_summers_226 ?_
  refine J_icmp_ge (tgt := 254) dX8_summers_228 (by decide) (fun c => ?_) (fun c => ?_)
  · replace K := K.1 c
    refine J_aload_n rfl dX8_summers_254 ?_
    refine J_bipush (by decide) (by decide) dX8_summers_255 ?_
    refine J_b0 (J_callV (b1 := 0) (ci := 8) (vs := [vI 16]) (rest := []) (Or.inl rfl) ml_RX8_178 rfl (by decide) rfl rfl (Or.inl rfl) (Nat.le_of_ble_eq_true rfl) rfl dX8_summers_257 (WM_mono K (fun r h1 K => ?_)))
    obtain ⟨rfl, K⟩ := K
    show J _ _ _ _ _ _ _ [] _
    refine J_aload_n rfl dX8_summers_260 ?_
    refine J_iload_n rfl dX8_summers_261 ?_
    refine J_b0 (J_callV (b1 := 0) (ci := 8) (vs := [vI y3]) (rest := []) (Or.inl rfl) ml_RX8_170 rfl (by decide) rfl rfl (Or.inl rfl) (Nat.le_of_ble_eq_true rfl) rfl dX8_summers_262 (c_X8_tell  K.1 K.2.1 ?_))
    replace K := K.2.2
    replace K := K _ rfl
    show J _ _ _ _ _ _ _ [vI y3] _
    exact J_ireturn rfl dX8_summers_265 K
  · replace K := K.2 c
    refine J_aload_n rfl dX8_summers_231 ?_
    refine J_getS (r := 31) fl_RX8_155 rfl (Or.inl rfl) rfl dX8_summers_232 ?_
    refine J_iload rfl dX8_summers_235 ?_
    refine J_aload_n rfl dX8_summers_237 ?_
    refine J_getS (r := 2) fl_RX8_13 rfl (Or.inl rfl) rfl dX8_summers_238 ?_
    refine J_bipush (by decide) (by decide) dX8_summers_241 ?_
    refine J_iload rfl dX8_summers_243 ?_
    refine J_iadd K.1 dX8_summers_245 ?_
    replace K := K.2
    refine J_iaload (Or.inl rfl) K.1 dX8_summers_246 ?_
    replace K := K.2
    refine J_iastore (Or.inl rfl) K.1 dX8_summers_247 ?_
    replace K := K.2
    replace K := K _ rfl
    refine J_iinc (loc' := [some (vR (some 0)), none, none, some (vI y3), some (vI (y4 + 1)), none]) (by decide) rfl K.1 rfl dX8_summers_248 ?_
    replace K := K.2
    refine J_goto (tgt := 224) dX8_summers_251 (by decide) ?_
    exact J_forget (loc' := [some (vR (some 0)), none, none, some (vI y3), some (vI (y4 + 1)), none]) (And.intro (Or.inr rfl) (And.intro (Or.inl rfl) (And.intro (Or.inl rfl) (And.intro (Or.inr rfl) (And.intro (Or.inr rfl) (And.intro (Or.inl rfl) True.intro)))))) K
set_option maxRecDepth 20000 in
set_option maxHeartbeats 2000000 in
theorem w_X8_summers {d b : Nat} {Q : Option AV → AH → Prop} {h : AH} {x1 : Int} {x2 : Int}  (K : R32 x1 → R32 x2 → ∀ h1, h1 = si h 0 0 0 → (0 ≤ x1 ∧ x1 ≤ 1000000 → (1 ≤ x2 ∧ x2 ≤ 60 → WM GM (d + 6) 0 mX8_keepAll [vR (some 0), vI 16] h1 (fun r h3 => r = none ∧ ∀ h4, h4 = sl h3 0 54 x1 → Lp_X8_summers_52 d b Q x2 0 0 h4)) ∧ (¬(1 ≤ x2 ∧ x2 ≤ 60) → (-7 < (-1)) ∧ (∀ i : Int, 0 ≤ i → i < 7 → 0 ≤ gi h1 1 i ∧ gi h1 1 i ≤ 1000000) ∧ ∀ h5, h5 = mTell h1 (-1) → Q (some (vI (-1))) h5)) ∧ (¬(0 ≤ x1 ∧ x1 ≤ 1000000) → (-7 < (-1)) ∧ (∀ i : Int, 0 ≤ i → i < 7 → 0 ≤ gi h1 1 i ∧ gi h1 1 i ≤ 1000000) ∧ ∀ h2, h2 = mTell h1 (-1) → Q (some (vI (-1))) h2)) : WM GM (d + 7) b mX8_summers [vR (some 0), vI x1, vI x2] h Q := by
  refine WM_introE (loc' := [some (vR (some 0)), some (vI x1), some (vI x2), none, none, none]) rfl (by decide) (Nat.le_of_ble_eq_true rfl) ?_
  refine J_rgl (i := 1) rfl (fun r1 => ?_)
  replace K := K r1
  refine J_rgl (i := 2) rfl (fun r2 => ?_)
  replace K := K r2
  refine J_aload_n rfl dX8_summers_0 ?_
  refine J_iconst (by decide) dX8_summers_1 ?_
  refine J_putI fl_RX8_161 rfl (Or.inl rfl) dX8_summers_2 ?_
  replace K := K _ rfl
  refine J_iload_n rfl dX8_summers_5 ?_
  refine J_i2l dX8_summers_6 ?_
  refine J_lconst (x := 0) (by decide) (by decide) dX8_summers_7 ?_
  refine J_ldc2 (n := 1000000) (by decide) (by decide) kc_RX8_279 dX8_summers_8 ?_
  refine J_b0 (J_callS (b1 := 0) (vs := [vL x1, vL 0, vL 1000000]) (rest := []) (Or.inl rfl) ml_RX8_181 rfl (by decide) (Nat.le_of_ble_eq_true rfl) rfl dX8_summers_11 (c_X8_in   ?_))
  show J _ _ _ _ _ _ _ [vI (b2i (0 ≤ x1 ∧ x1 ≤ 1000000))] _
  refine J_if_eq (tgt := 29) dX8_summers_14 (by decide) (fun c => ?_) (fun c => ?_)
  · replace K := K.2 (b2i_0.mp c)
    refine J_aload_n rfl dX8_summers_29 ?_
    refine J_iconst (by decide) dX8_summers_30 ?_
    refine J_b0 (J_callV (b1 := 0) (ci := 8) (vs := [vI (-1)]) (rest := []) (Or.inl rfl) ml_RX8_170 rfl (by decide) rfl rfl (Or.inl rfl) (Nat.le_of_ble_eq_true rfl) rfl dX8_summers_31 (c_X8_tell  K.1 K.2.1 ?_))
    replace K := K.2.2
    replace K := K _ rfl
    show J _ _ _ _ _ _ _ [vI (-1)] _
    exact J_ireturn rfl dX8_summers_34 K
  · replace K := K.1 (b2i_n0.mp c)
    refine J_iload_n rfl dX8_summers_17 ?_
    refine J_i2l dX8_summers_18 ?_
    refine J_lconst (x := 1) (by decide) (by decide) dX8_summers_19 ?_
    refine J_ldc2 (n := 60) (by decide) (by decide) kc_RX8_507 dX8_summers_20 ?_
    refine J_b0 (J_callS (b1 := 0) (vs := [vL x2, vL 1, vL 60]) (rest := []) (Or.inl rfl) ml_RX8_181 rfl (by decide) (Nat.le_of_ble_eq_true rfl) rfl dX8_summers_23 (c_X8_in   ?_))
    show J _ _ _ _ _ _ _ [vI (b2i (1 ≤ x2 ∧ x2 ≤ 60))] _
    refine J_if_ne (tgt := 35) dX8_summers_26 (by decide) (fun c => ?_) (fun c => ?_)
    · replace K := K.1 (b2i_n0.mp c)
      refine J_aload_n rfl dX8_summers_35 ?_
      refine J_bipush (by decide) (by decide) dX8_summers_36 ?_
      refine J_b0 (J_callV (b1 := 0) (ci := 8) (vs := [vI 16]) (rest := []) (Or.inl rfl) ml_RX8_174 rfl (by decide) rfl rfl (Or.inl rfl) (Nat.le_of_ble_eq_true rfl) rfl dX8_summers_38 (WM_mono K (fun r h3 K => ?_)))
      obtain ⟨rfl, K⟩ := K
      show J _ _ _ _ _ _ _ [] _
      refine J_aload_n rfl dX8_summers_41 ?_
      refine J_iload_n rfl dX8_summers_42 ?_
      refine J_i2l dX8_summers_43 ?_
      refine J_putL fl_RX8_550 rfl (Or.inl rfl) dX8_summers_44 ?_
      replace K := K _ rfl
      refine J_iconst (by decide) dX8_summers_47 ?_
      refine J_istore_n (loc' := [some (vR (some 0)), some (vI x1), some (vI x2), some (vI 0), none, none]) (by decide) rfl dX8_summers_48 ?_
      refine J_iconst (by decide) dX8_summers_49 ?_
      refine J_istore (loc' := [some (vR (some 0)), some (vI x1), some (vI x2), some (vI 0), some (vI 0), none]) (by decide) rfl dX8_summers_50 ?_
      exact J_forget (loc' := [some (vR (some 0)), none, some (vI x2), some (vI 0), some (vI 0), none]) (And.intro (Or.inr rfl) (And.intro (Or.inl rfl) (And.intro (Or.inr rfl) (And.intro (Or.inr rfl) (And.intro (Or.inr rfl) (And.intro (Or.inl rfl) True.intro)))))) K
    · replace K := K.2 (b2i_0.mp c)
      refine J_aload_n rfl dX8_summers_29 ?_
      refine J_iconst (by decide) dX8_summers_30 ?_
      refine J_b0 (J_callV (b1 := 0) (ci := 8) (vs := [vI (-1)]) (rest := []) (Or.inl rfl) ml_RX8_170 rfl (by decide) rfl rfl (Or.inl rfl) (Nat.le_of_ble_eq_true rfl) rfl dX8_summers_31 (c_X8_tell  K.1 K.2.1 ?_))
      replace K := K.2.2
      replace K := K _ rfl
      show J _ _ _ _ _ _ _ [vI (-1)] _
      exact J_ireturn rfl dX8_summers_34 K
