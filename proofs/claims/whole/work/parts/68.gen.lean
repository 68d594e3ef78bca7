def Lp_X8_next_8 (d b : Nat) (Q : Option AV → AH → Prop)   (h : AH) : Prop := J GM (d + 1) b mX8_next Q 8 [some (vR (some 0))] [] h
def Lp_X8_next_46 (d b : Nat) (Q : Option AV → AH → Prop)   (h : AH) : Prop := J GM (d + 1) b mX8_next Q 46 [some (vR (some 0))] [] h
def Lp_X8_next_117 (d b : Nat) (Q : Option AV → AH → Prop)   (h : AH) : Prop := J GM (d + 1) b mX8_next Q 117 [some (vR (some 0))] [] h
def Lp_X8_next_149 (d b : Nat) (Q : Option AV → AH → Prop)   (h : AH) : Prop := J GM (d + 1) b mX8_next Q 149 [some (vR (some 0))] [] h
def Lp_X8_next_243 (d b : Nat) (Q : Option AV → AH → Prop)   (h : AH) : Prop := J GM (d + 1) b mX8_next Q 243 [some (vR (some 0))] [] h
set_option maxRecDepth 20000 in
set_option maxHeartbeats 2000000 in
theorem l_X8_next_8 {d b : Nat} {Q : Option AV → AH → Prop} {h : AH}    (K : (gi h 0 13 ≤ gi h 0 14 → Lp_X8_next_46 d b Q  h) ∧ (¬(gi h 0 13 ≤ gi h 0 14) → (0 ≤ gi h 0 14 ∧ gi h 0 14 < 400) ∧ (gi h 9 (gi h 0 14) = 32 → R32 ((gi h 0 14) + 1) ∧ ∀ h1, h1 = si h 0 14 ((gi h 0 14) + 1) → Lp_X8_next_8 d b Q  h1) ∧ (¬(gi h 9 (gi h 0 14) = 32) → Lp_X8_next_46 d b Q  h))) : Lp_X8_next_8 d b Q  h := by
  unfold Lp_X8_next_8
  refine J_aload_n rfl dX8_next_8 ?_
  refine J_getI fl_RX8_257 rfl (Or.inl rfl) dX8_next_9 ?_
  refine J_aload_n rfl dX8_next_12 ?_
  refine J_getI fl_RX8_238 rfl (Or.inl rfl) dX8_next_13 ?_
  refine J_icmp_ge (tgt := 46) dX8_next_16 (by decide) (fun c => ?_) (fun c => ?_)
  · replace K := K.1 c
    exact J_forget (loc' := [some (vR (some 0))]) (And.intro (Or.inr rfl) True.intro) K
  · replace K := K.2 c
    refine J_aload_n rfl dX8_next_19 ?_
    refine J_getS (r := 9) fl_RX8_35 rfl (Or.inl rfl) rfl dX8_next_20 ?_
    refine J_aload_n rfl dX8_next_23 ?_
    refine J_getI fl_RX8_257 rfl (Or.inl rfl) dX8_next_24 ?_
    refine J_iaload (Or.inl rfl) K.1 dX8_next_27 ?_
    replace K := K.2
    refine J_bipush (by decide) (by decide) dX8_next_28 ?_
    refine J_icmp_ne (tgt := 46) dX8_next_30 (by decide) (fun c => ?_) (fun c => ?_)
    · replace K := K.2 c
      exact J_forget (loc' := [some (vR (some 0))]) (And.intro (Or.inr rfl) True.intro) K
    · replace K := K.1 c
      refine J_aload_n rfl dX8_next_33 ?_
      refine J_dup rfl dX8_next_34 ?_
      refine J_getI fl_RX8_257 rfl (Or.inl rfl) dX8_next_35 ?_
      refine J_iconst (by decide) dX8_next_38 ?_
      refine J_iadd K.1 dX8_next_39 ?_
      replace K := K.2
      refine J_putI fl_RX8_257 rfl (Or.inl rfl) dX8_next_40 ?_
      replace K := K _ rfl
      refine J_goto (tgt := 8) dX8_next_43 (by decide) ?_
      exact J_forget (loc' := [some (vR (some 0))]) (And.intro (Or.inr rfl) True.intro) K
set_option maxRecDepth 20000 in
set_option maxHeartbeats 2000000 in
theorem l_X8_next_46 {d b : Nat} {Q : Option AV → AH → Prop} {h : AH}    (K : ∀ h1, h1 = si h 0 15 (gi h 0 14) → ∀ h2, h2 = sl h1 0 17 0 → (gi h 0 14 = gi h 0 13 → ∀ h6, h6 = si h2 0 16 0 → Lp_X8_next_117 d b Q  h6) ∧ (¬(gi h 0 14 = gi h 0 13) → (0 ≤ gi h 0 14 ∧ gi h 0 14 < 400) ∧ (97 ≤ (gi h 9 (gi h 0 14)) ∧ (gi h 9 (gi h 0 14)) ≤ 122 → ∀ h5, h5 = si h2 0 16 1 → Lp_X8_next_117 d b Q  h5) ∧ (¬(97 ≤ (gi h 9 (gi h 0 14)) ∧ (gi h 9 (gi h 0 14)) ≤ 122) → (0 ≤ gi h 0 14 ∧ gi h 0 14 < 400) ∧ (48 ≤ (gi h 9 (gi h 0 14)) ∧ (gi h 9 (gi h 0 14)) ≤ 57 → ∀ h4, h4 = si h2 0 16 2 → Lp_X8_next_117 d b Q  h4) ∧ (¬(48 ≤ (gi h 9 (gi h 0 14)) ∧ (gi h 9 (gi h 0 14)) ≤ 57) → ∀ h3, h3 = si h2 0 16 3 → Lp_X8_next_117 d b Q  h3)))) : Lp_X8_next_46 d b Q  h := by
  unfold Lp_X8_next_46
  refine J_aload_n rfl dX8_next_46 ?_
  refine J_aload_n rfl dX8_next_47 ?_
  refine J_getI fl_RX8_257 rfl (Or.inl rfl) dX8_next_48 ?_
  refine J_putI fl_RX8_247 rfl (Or.inl rfl) dX8_next_51 ?_
  replace K := K _ rfl
  refine J_aload_n rfl dX8_next_54 ?_
  refine J_lconst (x := 0) (by decide) (by decide) dX8_next_55 ?_
  refine J_putL fl_RX8_260 rfl (Or.inl rfl) dX8_next_56 ?_
  replace K := K _ rfl
  refine J_aload_n rfl dX8_next_59 ?_
  refine J_aload_n rfl dX8_next_60 ?_
  refine J_getIe fl_RX8_257 rfl (Or.inl rfl) (Eq.trans gi_xl (gi_nk (by decide))) dX8_next_61 ?_
  refine J_aload_n rfl dX8_next_64 ?_
  refine J_getIe fl_RX8_238 rfl (Or.inl rfl) (Eq.trans gi_xl (gi_nk (by decide))) dX8_next_65 ?_
  refine J_icmp_ne (tgt := 75) dX8_next_68 (by decide) (fun c => ?_) (fun c => ?_)
  · replace K := K.2 c
    refine J_aload_n rfl dX8_next_75 ?_
    refine J_getS (r := 9) fl_RX8_35 rfl (Or.inl rfl) rfl dX8_next_76 ?_
    refine J_aload_n rfl dX8_next_79 ?_
    refine J_getIe fl_RX8_257 rfl (Or.inl rfl) (Eq.trans gi_xl (gi_nk (by decide))) dX8_next_80 ?_
    refine J_ialoade (Or.inl rfl) K.1 (Eq.trans gi_xl (gi_no (by decide))) dX8_next_83 ?_
    replace K := K.2
    refine J_b0 (J_callS (b1 := 0) (vs := [vI (gi h 9 (gi h 0 14))]) (rest := [vR (some 0)]) (Or.inl rfl) ml_RX8_264 rfl (by decide) (Nat.le_of_ble_eq_true rfl) rfl dX8_next_84 (c_X8_isSmall   ?_))
    show J _ _ _ _ _ _ _ [vI (b2i (97 ≤ (gi h 9 (gi h 0 14)) ∧ (gi h 9 (gi h 0 14)) ≤ 122)), vR (some 0)] _
    refine J_if_eq (tgt := 94) dX8_next_87 (by decide) (fun c => ?_) (fun c => ?_)
    · replace K := K.2 (b2i_0.mp c)
      refine J_aload_n rfl dX8_next_94 ?_
      refine J_getS (r := 9) fl_RX8_35 rfl (Or.inl rfl) rfl dX8_next_95 ?_
      refine J_aload_n rfl dX8_next_98 ?_
      refine J_getIe fl_RX8_257 rfl (Or.inl rfl) (Eq.trans gi_xl (gi_nk (by decide))) dX8_next_99 ?_
      refine J_ialoade (Or.inl rfl) K.1 (Eq.trans gi_xl (gi_no (by decide))) dX8_next_102 ?_
      replace K := K.2
      refine J_b0 (J_callS (b1 := 0) (vs := [vI (gi h 9 (gi h 0 14))]) (rest := [vR (some 0)]) (Or.inl rfl) ml_RX8_267 rfl (by decide) (Nat.le_of_ble_eq_true rfl) rfl dX8_next_103 (c_X8_isDigit   ?_))
      show J _ _ _ _ _ _ _ [vI (b2i (48 ≤ (gi h 9 (gi h 0 14)) ∧ (gi h 9 (gi h 0 14)) ≤ 57)), vR (some 0)] _
      refine J_if_eq (tgt := 113) dX8_next_106 (by decide) (fun c => ?_) (fun c => ?_)
      · replace K := K.2 (b2i_0.mp c)
        refine J_iconst (by decide) dX8_next_113 ?_
        refine J_putI fl_RX8_270 rfl (Or.inl rfl) dX8_next_114 ?_
        replace K := K _ rfl
        exact J_forget (loc' := [some (vR (some 0))]) (And.intro (Or.inr rfl) True.intro) K
      · replace K := K.1 (b2i_n0.mp c)
        refine J_iconst (by decide) dX8_next_109 ?_
        refine J_goto (tgt := 114) dX8_next_110 (by decide) ?_
        refine J_putI fl_RX8_270 rfl (Or.inl rfl) dX8_next_114 ?_
        replace K := K _ rfl
        exact J_forget (loc' := [some (vR (some 0))]) (And.intro (Or.inr rfl) True.intro) K
    · replace K := K.1 (b2i_n0.mp c)
      refine J_iconst (by decide) dX8_next_90 ?_
      refine J_goto (tgt := 114) dX8_next_91 (by decide) ?_
      refine J_putI fl_RX8_270 rfl (Or.inl rfl) dX8_next_114 ?_
      replace K := K _ rfl
      exact J_forget (loc' := [some (vR (some 0))]) (And.intro (Or.inr rfl) True.intro) K
  · replace K := K.1 c
    refine J_iconst (by decide) dX8_next_71 ?_
    refine J_goto (tgt := 114) dX8_next_72 (by decide) ?_
    refine J_putI fl_RX8_270 rfl (Or.inl rfl) dX8_next_114 ?_
    replace K := K _ rfl
    exact J_forget (loc' := [some (vR (some 0))]) (And.intro (Or.inr rfl) True.intro) K
set_option maxRecDepth 20000 in
set_option maxHeartbeats 2000000 in
theorem l_X8_next_117 {d b : Nat} {Q : Option AV → AH → Prop} {h : AH}    (K : (gi h 0 16 = 3 → (0 ≤ gi h 0 14 ∧ gi h 0 14 < 400) ∧ ∀ h1, h1 = sl h 0 17 (gi h 9 (gi h 0 14)) → R32 ((gi h 0 15) + 1) ∧ ∀ h2, h2 = si h1 0 15 ((gi h 0 15) + 1) → Lp_X8_next_149 d b Q  h2) ∧ (¬(gi h 0 16 = 3) → Lp_X8_next_149 d b Q  h)) : Lp_X8_next_117 d b Q  h := by
  unfold Lp_X8_next_117
  refine J_aload_n rfl dX8_next_117 ?_
  refine J_getI fl_RX8_270 rfl (Or.inl rfl) dX8_next_118 ?_
  refine J_iconst (by decide) dX8_next_121 ?_
  refine J_icmp_ne (tgt := 149) dX8_next_122 (by decide) (fun c => ?_) (fun c => ?_)
  · replace K := K.2 c
    exact J_forget (loc' := [some (vR (some 0))]) (And.intro (Or.inr rfl) True.intro) K
  · replace K := K.1 c
    refine J_aload_n rfl dX8_next_125 ?_
    refine J_aload_n rfl dX8_next_126 ?_
    refine J_getS (r := 9) fl_RX8_35 rfl (Or.inl rfl) rfl dX8_next_127 ?_
    refine J_aload_n rfl dX8_next_130 ?_
    refine J_getI fl_RX8_257 rfl (Or.inl rfl) dX8_next_131 ?_
    refine J_iaload (Or.inl rfl) K.1 dX8_next_134 ?_
    replace K := K.2
    refine J_i2l dX8_next_135 ?_
    refine J_putL fl_RX8_260 rfl (Or.inl rfl) dX8_next_136 ?_
    replace K := K _ rfl
    refine J_aload_n rfl dX8_next_139 ?_
    refine J_dup rfl dX8_next_140 ?_
    refine J_getIe fl_RX8_247 rfl (Or.inl rfl) gi_xl dX8_next_141 ?_
    refine J_iconst (by decide) dX8_next_144 ?_
    refine J_iadd K.1 dX8_next_145 ?_
    replace K := K.2
    refine J_putI fl_RX8_247 rfl (Or.inl rfl) dX8_next_146 ?_
    replace K := K _ rfl
    exact J_forget (loc' := [some (vR (some 0))]) (And.intro (Or.inr rfl) True.intro) K
set_option maxRecDepth 20000 in
set_option maxHeartbeats 2000000 in
theorem l_X8_next_149 {d b : Nat} {Q : Option AV → AH → Prop} {h : AH}    (K : (gi h 0 16 = 1 → (gi h 0 13 ≤ gi h 0 15 → Lp_X8_next_243 d b Q  h) ∧ (¬(gi h 0 13 ≤ gi h 0 15) → (0 ≤ gi h 0 15 ∧ gi h 0 15 < 400) ∧ (97 ≤ (gi h 9 (gi h 0 15)) ∧ (gi h 9 (gi h 0 15)) ≤ 122 → R32 ((gi h 0 15) - (gi h 0 14)) ∧ (10 ≤ (gi h 0 15) - (gi h 0 14) → ∀ h1, h1 = sl h 0 17 (-1) → R32 ((gi h 0 15) + 1) ∧ ∀ h2, h2 = si h1 0 15 ((gi h 0 15) + 1) → Lp_X8_next_149 d b Q  h2) ∧ (¬(10 ≤ (gi h 0 15) - (gi h 0 14)) → R64 ((gl h 0 17) * 32) ∧ (0 ≤ gi h 0 15 ∧ gi h 0 15 < 400) ∧ R64 (((gl h 0 17) * 32) + (gi h 9 (gi h 0 15))) ∧ R64 ((((gl h 0 17) * 32) + (gi h 9 (gi h 0 15))) - 96) ∧ ∀ h3, h3 = sl h 0 17 ((((gl h 0 17) * 32) + (gi h 9 (gi h 0 15))) - 96) → R32 ((gi h 0 15) + 1) ∧ ∀ h4, h4 = si h3 0 15 ((gi h 0 15) + 1) → Lp_X8_next_149 d b Q  h4)) ∧ (¬(97 ≤ (gi h 9 (gi h 0 15)) ∧ (gi h 9 (gi h 0 15)) ≤ 122) → Lp_X8_next_243 d b Q  h))) ∧ (¬(gi h 0 16 = 1) → Lp_X8_next_243 d b Q  h)) : Lp_X8_next_149 d b Q  h := by
  unfold Lp_X8_next_149
  refine J_aload_n rfl dX8_next_149 ?_
  refine J_getI fl_RX8_270 rfl (Or.inl rfl) dX8_next_150 ?_
  refine J_iconst (by decide) dX8_next_153 ?_
  refine J_icmp_ne (tgt := 243) dX8_next_154 (by decide) (fun c => ?_) (fun c => ?_)
  · replace K := K.2 c
    exact J_forget (loc' := [some (vR (some 0))]) (And.intro (Or.inr rfl) True.intro) K
  · replace K := K.1 c
    refine J_aload_n rfl dX8_next_157 ?_
    refine J_getI fl_RX8_247 rfl (Or.inl rfl) dX8_next_158 ?_
    refine J_aload_n rfl dX8_next_161 ?_
    refine J_getI fl_RX8_238 rfl (Or.inl rfl) dX8_next_162 ?_
    refine J_icmp_ge (tgt := 243) dX8_next_165 (by decide) (fun c => ?_) (fun c => ?_)
    · replace K := K.1 c
      exact J_forget (loc' := [some (vR (some 0))]) (And.intro (Or.inr rfl) True.intro) K
    · replace K := K.2 c
      refine J_aload_n rfl dX8_next_168 ?_
      refine J_getS (r := 9) fl_RX8_35 rfl (Or.inl rfl) rfl dX8_next_169 ?_
      refine J_aload_n rfl dX8_next_172 ?_
      refine J_getI fl_RX8_247 rfl (Or.inl rfl) dX8_next_173 ?_
      refine J_iaload (Or.inl rfl) K.1 dX8_next_176 ?_
      replace K := K.2
      refine J_b0 (J_callS (b1 := 0) (vs := [vI (gi h 9 (gi h 0 15))]) (rest := []) (Or.inl rfl) ml_RX8_264 rfl (by decide) (Nat.le_of_ble_eq_true rfl) rfl dX8_next_177 (c_X8_isSmall   ?_))
      show J _ _ _ _ _ _ _ [vI (b2i (97 ≤ (gi h 9 (gi h 0 15)) ∧ (gi h 9 (gi h 0 15)) ≤ 122))] _
      refine J_if_eq (tgt := 243) dX8_next_180 (by decide) (fun c => ?_) (fun c => ?_)
      · replace K := K.2 (b2i_0.mp c)
        exact J_forget (loc' := [some (vR (some 0))]) (And.intro (Or.inr rfl) True.intro) K
      · replace K := K.1 (b2i_n0.mp c)
        refine J_aload_n rfl dX8_next_183 ?_
        refine J_aload_n rfl dX8_next_184 ?_
        refine J_getI fl_RX8_247 rfl (Or.inl rfl) dX8_next_185 ?_
        refine J_aload_n rfl dX8_next_188 ?_
        refine J_getI fl_RX8_257 rfl (Or.inl rfl) dX8_next_189 ?_
        refine J_isub K.1 dX8_next_192 ?_
        replace K := K.2
        refine J_bipush (by decide) (by decide) dX8_next_193 ?_
        refine J_icmp_ge (tgt := 224) dX8_next_195 (by decide) (fun c => ?_) (fun c => ?_)
        · replace K := K.1 c
          refine J_ldc2 (n := (-1)) (by decide) (by decide) kc_RX8_277 dX8_next_224 ?_
          refine J_putL fl_RX8_260 rfl (Or.inl rfl) dX8_next_227 ?_
          replace K := K _ rfl
          refine J_aload_n rfl dX8_next_230 ?_
          refine J_dup rfl dX8_next_231 ?_
          refine J_getIe fl_RX8_247 rfl (Or.inl rfl) gi_xl dX8_next_232 ?_
          refine J_iconst (by decide) dX8_next_235 ?_
          refine J_iadd K.1 dX8_next_236 ?_
          replace K := K.2
          refine J_putI fl_RX8_247 rfl (Or.inl rfl) dX8_next_237 ?_
          replace K := K _ rfl
          refine J_goto (tgt := 149) dX8_next_240 (by decide) ?_
          exact J_forget (loc' := [some (vR (some 0))]) (And.intro (Or.inr rfl) True.intro) K
        · replace K := K.2 c
          refine J_aload_n rfl dX8_next_198 ?_
          refine J_getL fl_RX8_260 rfl (Or.inl rfl) dX8_next_199 ?_
          refine J_ldc2 (n := 32) (by decide) (by decide) kc_RX8_273 dX8_next_202 ?_
          refine J_lmul K.1 dX8_next_205 ?_
          replace K := K.2
          refine J_aload_n rfl dX8_next_206 ?_
          refine J_getS (r := 9) fl_RX8_35 rfl (Or.inl rfl) rfl dX8_next_207 ?_
          refine J_aload_n rfl dX8_next_210 ?_
          refine J_getI fl_RX8_247 rfl (Or.inl rfl) dX8_next_211 ?_
          refine J_iaload (Or.inl rfl) K.1 dX8_next_214 ?_
          replace K := K.2
          refine J_i2l dX8_next_215 ?_
          refine J_ladd K.1 dX8_next_216 ?_
          replace K := K.2
          refine J_ldc2 (n := 96) (by decide) (by decide) kc_RX8_275 dX8_next_217 ?_
          refine J_lsub K.1 dX8_next_220 ?_
          replace K := K.2
          refine J_goto (tgt := 227) dX8_next_221 (by decide) ?_
          refine J_putL fl_RX8_260 rfl (Or.inl rfl) dX8_next_227 ?_
          replace K := K _ rfl
          refine J_aload_n rfl dX8_next_230 ?_
          refine J_dup rfl dX8_next_231 ?_
          refine J_getIe fl_RX8_247 rfl (Or.inl rfl) gi_xl dX8_next_232 ?_
          refine J_iconst (by decide) dX8_next_235 ?_
          refine J_iadd K.1 dX8_next_236 ?_
          replace K := K.2
          refine J_putI fl_RX8_247 rfl (Or.inl rfl) dX8_next_237 ?_
          replace K := K _ rfl
          refine J_goto (tgt := 149) dX8_next_240 (by decide) ?_
          exact J_forget (loc' := [some (vR (some 0))]) (And.intro (Or.inr rfl) True.intro) K
set_option maxRecDepth 20000 in
set_option maxHeartbeats 2000000 in
theorem l_X8_next_243 {d b : Nat} {Q : Option AV → AH → Prop} {h : AH}    (K : (gi h 0 16 = 2 → (gi h 0 13 ≤ gi h 0 15 → Q none h) ∧ (¬(gi h 0 13 ≤ gi h 0 15) → (0 ≤ gi h 0 15 ∧ gi h 0 15 < 400) ∧ (48 ≤ (gi h 9 (gi h 0 15)) ∧ (gi h 9 (gi h 0 15)) ≤ 57 → (gl h 0 17 ≤ 1000000 → R64 ((gl h 0 17) * 10) ∧ (0 ≤ gi h 0 15 ∧ gi h 0 15 < 400) ∧ R64 (((gl h 0 17) * 10) + (gi h 9 (gi h 0 15))) ∧ R64 ((((gl h 0 17) * 10) + (gi h 9 (gi h 0 15))) - 48) ∧ ∀ h1, h1 = sl h 0 17 ((((gl h 0 17) * 10) + (gi h 9 (gi h 0 15))) - 48) → R32 ((gi h 0 15) + 1) ∧ ∀ h2, h2 = si h1 0 15 ((gi h 0 15) + 1) → Lp_X8_next_243 d b Q  h2) ∧ (¬(gl h 0 17 ≤ 1000000) → ∀ h3, h3 = sl h 0 17 (gl h 0 17) → R32 ((gi h 0 15) + 1) ∧ ∀ h4, h4 = si h3 0 15 ((gi h 0 15) + 1) → Lp_X8_next_243 d b Q  h4)) ∧ (¬(48 ≤ (gi h 9 (gi h 0 15)) ∧ (gi h 9 (gi h 0 15)) ≤ 57) → Q none h))) ∧ (¬(gi h 0 16 = 2) → Q none h)) : Lp_X8_next_243 d b Q  h := by
  unfold Lp_X8_next_243
  refine J_aload_n rfl dX8_next_243 ?_
  refine J_getI fl_RX8_270 rfl (Or.inl rfl) dX8_next_244 ?_
  refine J_iconst (by decide) dX8_next_247 ?_
  refine J_icmp_ne (tgt := 335) dX8_next_248 (by decide) (fun c => ?_) (fun c => ?_)
  · replace K := K.2 c
    exact J_return rfl dX8_next_335 K
  · replace K := K.1 c
    refine J_aload_n rfl dX8_next_251 ?_
    refine J_getI fl_RX8_247 rfl (Or.inl rfl) dX8_next_252 ?_
    refine J_aload_n rfl dX8_next_255 ?_
    refine J_getI fl_RX8_238 rfl (Or.inl rfl) dX8_next_256 ?_
    refine J_icmp_ge (tgt := 335) dX8_next_259 (by decide) (fun c => ?_) (fun c => ?_)
    · replace K := K.1 c
      exact J_return rfl dX8_next_335 K
    · replace K := K.2 c
      refine J_aload_n rfl dX8_next_262 ?_
      refine J_getS (r := 9) fl_RX8_35 rfl (Or.inl rfl) rfl dX8_next_263 ?_
      refine J_aload_n rfl dX8_next_266 ?_
      refine J_getI fl_RX8_247 rfl (Or.inl rfl) dX8_next_267 ?_
      refine J_iaload (Or.inl rfl) K.1 dX8_next_270 ?_
      replace K := K.2
      refine J_b0 (J_callS (b1 := 0) (vs := [vI (gi h 9 (gi h 0 15))]) (rest := []) (Or.inl rfl) ml_RX8_267 rfl (by decide) (Nat.le_of_ble_eq_true rfl) rfl dX8_next_271 (c_X8_isDigit   ?_))
      show J _ _ _ _ _ _ _ [vI (b2i (48 ≤ (gi h 9 (gi h 0 15)) ∧ (gi h 9 (gi h 0 15)) ≤ 57))] _
      refine J_if_eq (tgt := 335) dX8_next_274 (by decide) (fun c => ?_) (fun c => ?_)
      · replace K := K.2 (b2i_0.mp c)
        exact J_return rfl dX8_next_335 K
      · replace K := K.1 (b2i_n0.mp c)
        refine J_aload_n rfl dX8_next_277 ?_
        refine J_aload_n rfl dX8_next_278 ?_
        refine J_getL fl_RX8_260 rfl (Or.inl rfl) dX8_next_279 ?_
        refine J_ldc2 (n := 1000000) (by decide) (by decide) kc_RX8_279 dX8_next_282 ?_
        refine J_lcmp dX8_next_285 ?_
        refine J_if_le (tgt := 296) dX8_next_286 (by decide) (fun c => ?_) (fun c => ?_)
        · replace K := K.1 (zc_le.mp c)
          refine J_aload_n rfl dX8_next_296 ?_
          refine J_getL fl_RX8_260 rfl (Or.inl rfl) dX8_next_297 ?_
          refine J_ldc2 (n := 10) (by decide) (by decide) kc_RX8_281 dX8_next_300 ?_
          refine J_lmul K.1 dX8_next_303 ?_
          replace K := K.2
          refine J_aload_n rfl dX8_next_304 ?_
          refine J_getS (r := 9) fl_RX8_35 rfl (Or.inl rfl) rfl dX8_next_305 ?_
          refine J_aload_n rfl dX8_next_308 ?_
          refine J_getI fl_RX8_247 rfl (Or.inl rfl) dX8_next_309 ?_
          refine J_iaload (Or.inl rfl) K.1 dX8_next_312 ?_
          replace K := K.2
          refine J_i2l dX8_next_313 ?_
          refine J_ladd K.1 dX8_next_314 ?_
          replace K := K.2
          refine J_ldc2 (n := 48) (by decide) (by decide) kc_RX8_283 dX8_next_315 ?_
          refine J_lsub K.1 dX8_next_318 ?_
          replace K := K.2
          refine J_putL fl_RX8_260 rfl (Or.inl rfl) dX8_next_319 ?_
          replace K := K _ rfl
          refine J_aload_n rfl dX8_next_322 ?_
          refine J_dup rfl dX8_next_323 ?_
          refine J_getIe fl_RX8_247 rfl (Or.inl rfl) gi_xl dX8_next_324 ?_
          refine J_iconst (by decide) dX8_next_327 ?_
          refine J_iadd K.1 dX8_next_328 ?_
          replace K := K.2
          refine J_putI fl_RX8_247 rfl (Or.inl rfl) dX8_next_329 ?_
          replace K := K _ rfl
          refine J_goto (tgt := 243) dX8_next_332 (by decide) ?_
          exact J_forget (loc' := [some (vR (some 0))]) (And.intro (Or.inr rfl) True.intro) K
        · replace K := K.2 (fun z => c (zc_le.mpr z))
          refine J_aload_n rfl dX8_next_289 ?_
          refine J_getL fl_RX8_260 rfl (Or.inl rfl) dX8_next_290 ?_
          refine J_goto (tgt := 319) dX8_next_293 (by decide) ?_
          refine J_putL fl_RX8_260 rfl (Or.inl rfl) dX8_next_319 ?_
          replace K := K _ rfl
          refine J_aload_n rfl dX8_next_322 ?_
          refine J_dup rfl dX8_next_323 ?_
          refine J_getIe fl_RX8_247 rfl (Or.inl rfl) gi_xl dX8_next_324 ?_
          refine J_iconst (by decide) dX8_next_327 ?_
          refine J_iadd K.1 dX8_next_328 ?_
          replace K := K.2
          refine J_putI fl_RX8_247 rfl (Or.inl rfl) dX8_next_329 ?_
          replace K := K _ rfl
          refine J_goto (tgt := 243) dX8_next_332 (by decide) ?_
          exact J_forget (loc' := [some (vR (some 0))]) (And.intro (Or.inr rfl) True.intro) K
set_option maxRecDepth 20000 in
set_option maxHeartbeats 2000000 in
theorem w_X8_next {d b : Nat} {Q : Option AV → AH → Prop} {h : AH}   (K : ∀ h1, h1 = si h 0 14 (gi h 0 15) → Lp_X8_next_8 d b Q  h1) : WM GM (d + 1) b mX8_next [vR (some 0)] h Q := by
  refine WM_introE (loc' := [some (vR (some 0))]) rfl (by decide) (Nat.le_of_ble_eq_true rfl) ?_
  refine J_aload_n rfl dX8_next_0 ?_
  refine J_aload_n rfl dX8_next_1 ?_
  refine J_getI fl_RX8_247 rfl (Or.inl rfl) dX8_next_2 ?_
  refine J_putI fl_RX8_257 rfl (Or.inl rfl) dX8_next_5 ?_
  replace K := K _ rfl
  exact J_forget (loc' := [some (vR (some 0))]) (And.intro (Or.inr rfl) True.intro) K
set_option maxRecDepth 20000 in
set_option maxHeartbeats 2000000 in
theorem w_X8_must {d b : Nat} {Q : Option AV → AH → Prop} {h : AH} {x1 : Int}  (K : (gi h 0 19 = 0 → (x1 = 0 → ∀ h3, h3 = si h 0 19 1 → ∀ h4, h4 = si h3 0 18 (gi h 0 14) → Q none h4) ∧ (¬(x1 = 0) → (gi h 0 19 = 0 → WM GM (d + 1) 0 mX8_next [vR (some 0)] h (fun r h2 => r = none ∧ Q none h2)) ∧ (¬(gi h 0 19 = 0) → Q none h))) ∧ (¬(gi h 0 19 = 0) → (gi h 0 19 = 0 → WM GM (d + 1) 0 mX8_next [vR (some 0)] h (fun r h1 => r = none ∧ Q none h1)) ∧ (¬(gi h 0 19 = 0) → Q none h))) : WM GM (d + 2) b mX8_must [vR (some 0), vI x1] h Q := by
  refine WM_introE (loc' := [some (vR (some 0)), some (vI x1)]) rfl (by decide) (Nat.le_of_ble_eq_true rfl) ?_
  refine J_aload_n rfl dX8_must_0 ?_
  refine J_getI fl_RX8_250 rfl (Or.inl rfl) dX8_must_1 ?_
  refine J_if_ne (tgt := 24) dX8_must_4 (by decide) (fun c => ?_) (fun c => ?_)
  · replace K := K.2 c
    refine J_aload_n rfl dX8_must_24 ?_
    refine J_getI fl_RX8_250 rfl (Or.inl rfl) dX8_must_25 ?_
    refine J_if_ne (tgt := 35) dX8_must_28 (by decide) (fun c => ?_) (fun c => ?_)
    · replace K := K.2 c
      exact J_return rfl dX8_must_35 K
    · replace K := K.1 c
      refine J_aload_n rfl dX8_must_31 ?_
      refine J_b0 (J_callV (b1 := 0) (ci := 8) (vs := []) (rest := []) (Or.inl rfl) ml_RX8_254 rfl (by decide) rfl rfl (Or.inl rfl) (Nat.le_of_ble_eq_true rfl) rfl dX8_must_32 (WM_mono K (fun r h1 K => ?_)))
      obtain ⟨rfl, K⟩ := K
      show J _ _ _ _ _ _ _ [] _
      exact J_return rfl dX8_must_35 K
  · replace K := K.1 c
    refine J_iload_n rfl dX8_must_7 ?_
    refine J_if_ne (tgt := 24) dX8_must_8 (by decide) (fun c => ?_) (fun c => ?_)
    · replace K := K.2 c
      refine J_aload_n rfl dX8_must_24 ?_
      refine J_getI fl_RX8_250 rfl (Or.inl rfl) dX8_must_25 ?_
      refine J_if_ne (tgt := 35) dX8_must_28 (by decide) (fun c => ?_) (fun c => ?_)
      · replace K := K.2 c
        exact J_return rfl dX8_must_35 K
      · replace K := K.1 c
        refine J_aload_n rfl dX8_must_31 ?_
        refine J_b0 (J_callV (b1 := 0) (ci := 8) (vs := []) (rest := []) (Or.inl rfl) ml_RX8_254 rfl (by decide) rfl rfl (Or.inl rfl) (Nat.le_of_ble_eq_true rfl) rfl dX8_must_32 (WM_mono K (fun r h2 K => ?_)))
        obtain ⟨rfl, K⟩ := K
        show J _ _ _ _ _ _ _ [] _
        exact J_return rfl dX8_must_35 K
    · replace K := K.1 c
      refine J_aload_n rfl dX8_must_11 ?_
      refine J_iconst (by decide) dX8_must_12 ?_
      refine J_putZ fl_RX8_250 rfl (by decide) (Or.inl rfl) dX8_must_13 ?_
      replace K := K _ rfl
      refine J_aload_n rfl dX8_must_16 ?_
      refine J_aload_n rfl dX8_must_17 ?_
      refine J_getIe fl_RX8_257 rfl (Or.inl rfl) (gi_nk (by decide)) dX8_must_18 ?_
      refine J_putI fl_RX8_38 rfl (Or.inl rfl) dX8_must_21 ?_
      replace K := K _ rfl
      refine J_aload_n rfl dX8_must_24 ?_
      refine J_getIe fl_RX8_250 rfl (Or.inl rfl) (Eq.trans (gi_nk (by decide)) gi_eq) dX8_must_25 ?_
      refine J_if_ne (tgt := 35) dX8_must_28 (by decide) (fun _ => ?_) (fun c => absurd c (by decide))
      exact J_return rfl dX8_must_35 K
set_option maxRecDepth 20000 in
set_option maxHeartbeats 2000000 in
theorem w_X8_number {d b : Nat} {Q : Option AV → AH → Prop} {h : AH} {x1 : Int} {x2 : Int}  (K : (gi h 0 16 = 2 → (x1 ≤ (gl h 0 17) ∧ (gl h 0 17) ≤ x2 → WM GM (d + 2) 0 mX8_must [vR (some 0), vI 1] h (fun r h3 => r = none ∧ Q (some (vI (zl2i (gl h 0 17)))) h3)) ∧ (¬(x1 ≤ (gl h 0 17) ∧ (gl h 0 17) ≤ x2) → WM GM (d + 2) 0 mX8_must [vR (some 0), vI 0] h (fun r h2 => r = none ∧ Q (some (vI (zl2i (gl h 0 17)))) h2))) ∧ (¬(gi h 0 16 = 2) → WM GM (d + 2) 0 mX8_must [vR (some 0), vI 0] h (fun r h1 => r = none ∧ Q (some (vI (zl2i (gl h 0 17)))) h1))) : WM GM (d + 3) b mX8_number [vR (some 0), vL x1, vL x2] h Q := by
  refine WM_introE (loc' := [some (vR (some 0)), some (vL x1), none, some (vL x2), none, none]) rfl (by decide) (Nat.le_of_ble_eq_true rfl) ?_
  refine J_aload_n rfl dX8_number_0 ?_
  refine J_getL fl_RX8_260 rfl (Or.inl rfl) dX8_number_1 ?_
  refine J_l2i dX8_number_4 ?_
  refine J_istore (loc' := [some (vR (some 0)), some (vL x1), none, some (vL x2), none, some (vI (zl2i (gl h 0 17)))]) (by decide) rfl dX8_number_5 ?_
  refine J_aload_n rfl dX8_number_7 ?_
  refine J_aload_n rfl dX8_number_8 ?_
  refine J_getI fl_RX8_270 rfl (Or.inl rfl) dX8_number_9 ?_
  refine J_iconst (by decide) dX8_number_12 ?_
  refine J_icmp_ne (tgt := 32) dX8_number_13 (by decide) (fun c => ?_) (fun c => ?_)
  · replace K := K.2 c
    refine J_iconst (by decide) dX8_number_32 ?_
    refine J_b0 (J_callV (b1 := 0) (ci := 8) (vs := [vI 0]) (rest := []) (Or.inl rfl) ml_RX8_285 rfl (by decide) rfl rfl (Or.inl rfl) (Nat.le_of_ble_eq_true rfl) rfl dX8_number_33 (WM_mono K (fun r h1 K => ?_)))
    obtain ⟨rfl, K⟩ := K
    show J _ _ _ _ _ _ _ [] _
    refine J_iload rfl dX8_number_36 ?_
    exact J_ireturn rfl dX8_number_38 K
  · replace K := K.1 c
    refine J_aload_n rfl dX8_number_16 ?_
    refine J_getL fl_RX8_260 rfl (Or.inl rfl) dX8_number_17 ?_
    refine J_lload_n rfl dX8_number_20 ?_
    refine J_lload_n rfl dX8_number_21 ?_
    refine J_b0 (J_callS (b1 := 0) (vs := [vL (gl h 0 17), vL x1, vL x2]) (rest := [vR (some 0)]) (Or.inl rfl) ml_RX8_181 rfl (by decide) (Nat.le_of_ble_eq_true rfl) rfl dX8_number_22 (c_X8_in   ?_))
    show J _ _ _ _ _ _ _ [vI (b2i (x1 ≤ (gl h 0 17) ∧ (gl h 0 17) ≤ x2)), vR (some 0)] _
    refine J_if_eq (tgt := 32) dX8_number_25 (by decide) (fun c => ?_) (fun c => ?_)
    · replace K := K.2 (b2i_0.mp c)
      refine J_iconst (by decide) dX8_number_32 ?_
      refine J_b0 (J_callV (b1 := 0) (ci := 8) (vs := [vI 0]) (rest := []) (Or.inl rfl) ml_RX8_285 rfl (by decide) rfl rfl (Or.inl rfl) (Nat.le_of_ble_eq_true rfl) rfl dX8_number_33 (WM_mono K (fun r h2 K => ?_)))
      obtain ⟨rfl, K⟩ := K
      show J _ _ _ _ _ _ _ [] _
      refine J_iload rfl dX8_number_36 ?_
      exact J_ireturn rfl dX8_number_38 K
    · replace K := K.1 (b2i_n0.mp c)
      refine J_iconst (by decide) dX8_number_28 ?_
      refine J_goto (tgt := 33) dX8_number_29 (by decide) ?_
      refine J_b0 (J_callV (b1 := 0) (ci := 8) (vs := [vI 1]) (rest := []) (Or.inl rfl) ml_RX8_285 rfl (by decide) rfl rfl (Or.inl rfl) (Nat.le_of_ble_eq_true rfl) rfl dX8_number_33 (WM_mono K (fun r h3 K => ?_)))
      obtain ⟨rfl, K⟩ := K
      show J _ _ _ _ _ _ _ [] _
      refine J_iload rfl dX8_number_36 ?_
      exact J_ireturn rfl dX8_number_38 K
set_option maxRecDepth 20000 in
set_option maxHeartbeats 2000000 in
theorem w_X8_begin {d b : Nat} {Q : Option AV → AH → Prop} {h : AH}   (K : ∀ h1, h1 = si h 0 15 0 → ∀ h2, h2 = si h1 0 19 0 → ∀ h3, h3 = si h2 0 18 (-1) → WM GM (d + 1) 0 mX8_next [vR (some 0)] h3 (fun r h4 => r = none ∧ Q none h4)) : WM GM (d + 2) b mX8_begin [vR (some 0)] h Q := by
  refine WM_introE (loc' := [some (vR (some 0))]) rfl (by decide) (Nat.le_of_ble_eq_true rfl) ?_
  refine J_aload_n rfl dX8_begin_0 ?_
  refine J_iconst (by decide) dX8_begin_1 ?_
  refine J_putI fl_RX8_247 rfl (Or.inl rfl) dX8_begin_2 ?_
  replace K := K _ rfl
  refine J_aload_n rfl dX8_begin_5 ?_
  refine J_iconst (by decide) dX8_begin_6 ?_
  refine J_putZ fl_RX8_250 rfl (by decide) (Or.inl rfl) dX8_begin_7 ?_
  replace K := K _ rfl
  refine J_aload_n rfl dX8_begin_10 ?_
  refine J_iconst (by decide) dX8_begin_11 ?_
  refine J_putI fl_RX8_38 rfl (Or.inl rfl) dX8_begin_12 ?_
  replace K := K _ rfl
  refine J_aload_n rfl dX8_begin_15 ?_
  refine J_b0 (J_callV (b1 := 0) (ci := 8) (vs := []) (rest := []) (Or.inl rfl) ml_RX8_254 rfl (by decide) rfl rfl (Or.inl rfl) (Nat.le_of_ble_eq_true rfl) rfl dX8_begin_16 (WM_mono K (fun r h4 K => ?_)))
  obtain ⟨rfl, K⟩ := K
  show J _ _ _ _ _ _ _ [] _
  exact J_return rfl dX8_begin_19 K
def Lp_X8_settle_0 (d b : Nat) (Q : Option AV → AH → Prop)  (y1 : Int) (h : AH) : Prop := J GM (d + 1) b mX8_settle Q 0 [some (vR (some 0)), some (vI y1)] [] h
set_option maxRecDepth 20000 in
set_option maxHeartbeats 2000000 in
theorem l_X8_settle_0 {d b : Nat} {Q : Option AV → AH → Prop} {h : AH}  {y1 : Int}  (K : (gi h 0 29 ≤ 0 → Q none h) ∧ (¬(gi h 0 29 ≤ 0) → R32 ((gi h 0 29) - 1) ∧ (0 ≤ (gi h 0 29) - 1 ∧ (gi h 0 29) - 1 < 400) ∧ (zbin (gi h 13 ((gi h 0 29) - 1)) < y1 → Q none h) ∧ (¬(zbin (gi h 13 ((gi h 0 29) - 1)) < y1) → R32 ((gi h 0 29) - 1) ∧ ∀ h1, h1 = si h 0 29 ((gi h 0 29) - 1) → (0 ≤ (gi h 0 29) - 1 ∧ (gi h 0 29) - 1 < 400) ∧ (gi h 13 ((gi h 0 29) - 1) = 29 → (0 ≤ (gi h 0 29) - 1 ∧ (gi h 0 29) - 1 < 400) ∧ (0 ≤ gi h 14 ((gi h 0 29) - 1) ∧ gi h 14 ((gi h 0 29) - 1) < 400) ∧ ∀ h2, h2 = si h1 12 (gi h 14 ((gi h 0 29) - 1)) (gi h 0 23) → Lp_X8_settle_0 d b Q y1 h2) ∧ (¬(gi h 13 ((gi h 0 29) - 1) = 29) → (0 ≤ (gi h 0 29) - 1 ∧ (gi h 0 29) - 1 < 400) ∧ (gi h 13 ((gi h 0 29) - 1) = 30 → (0 ≤ (gi h 0 29) - 1 ∧ (gi h 0 29) - 1 < 400) ∧ (0 ≤ gi h 14 ((gi h 0 29) - 1) ∧ gi h 14 ((gi h 0 29) - 1) < 400) ∧ ∀ h4, h4 = si h1 12 (gi h 14 ((gi h 0 29) - 1)) (gi h 0 23) → Lp_X8_settle_0 d b Q y1 h4) ∧ (¬(gi h 13 ((gi h 0 29) - 1) = 30) → (0 ≤ (gi h 0 29) - 1 ∧ (gi h 0 29) - 1 < 400) ∧ (0 ≤ gi h1 0 23 ∧ gi h1 0 23 < 400) ∧ ∀ h3, h3 = si (si (si h1 11 (gi h1 0 23) (gi h 13 ((gi h 0 29) - 1))) 12 (gi h1 0 23) 0) 0 23 (gi h1 0 23 + 1) → Lp_X8_settle_0 d b Q y1 h3))))) : Lp_X8_settle_0 d b Q y1 h := by
  unfold Lp_X8_settle_0
  refine J_aload_n rfl dX8_settle_0 ?_
  refine J_getI fl_RX8_292 rfl (Or.inl rfl) dX8_settle_1 ?_
  refine J_if_le (tgt := 101) dX8_settle_4 (by decide) (fun c => ?_) (fun c => ?_)
  · replace K := K.1 c
    exact J_return rfl dX8_settle_101 K
  · replace K := K.2 c
    refine J_aload_n rfl dX8_settle_7 ?_
    refine J_getS (r := 13) fl_RX8_51 rfl (Or.inl rfl) rfl dX8_settle_8 ?_
    refine J_aload_n rfl dX8_settle_11 ?_
    refine J_getI fl_RX8_292 rfl (Or.inl rfl) dX8_settle_12 ?_
    refine J_iconst (by decide) dX8_settle_15 ?_
    refine J_isub K.1 dX8_settle_16 ?_
    replace K := K.2
    refine J_iaload (Or.inl rfl) K.1 dX8_settle_17 ?_
    replace K := K.2
    refine J_b0 (J_callS (b1 := 0) (vs := [vI (gi h 13 ((gi h 0 29) - 1))]) (rest := []) (Or.inl rfl) ml_RX8_295 rfl (by decide) (Nat.le_of_ble_eq_true rfl) rfl dX8_settle_18 (c_X8_binds   ?_))
    show J _ _ _ _ _ _ _ [vI (zbin (gi h 13 ((gi h 0 29) - 1)))] _
    refine J_iload_n rfl dX8_settle_21 ?_
    refine J_icmp_lt (tgt := 101) dX8_settle_22 (by decide) (fun c => ?_) (fun c => ?_)
    · replace K := K.1 c
      exact J_return rfl dX8_settle_101 K
    · replace K := K.2 c
      refine J_aload_n rfl dX8_settle_25 ?_
      refine J_dup rfl dX8_settle_26 ?_
      refine J_getI fl_RX8_292 rfl (Or.inl rfl) dX8_settle_27 ?_
      refine J_iconst (by decide) dX8_settle_30 ?_
      refine J_isub K.1 dX8_settle_31 ?_
      replace K := K.2
      refine J_putI fl_RX8_292 rfl (Or.inl rfl) dX8_settle_32 ?_
      replace K := K _ rfl
      refine J_aload_n rfl dX8_settle_35 ?_
      refine J_getS (r := 13) fl_RX8_51 rfl (Or.inl rfl) rfl dX8_settle_36 ?_
      refine J_aload_n rfl dX8_settle_39 ?_
      refine J_getIe fl_RX8_292 rfl (Or.inl rfl) gi_eq dX8_settle_40 ?_
      refine J_ialoade (Or.inl rfl) K.1 (gi_no (by decide)) dX8_settle_43 ?_
      replace K := K.2
      refine J_bipush (by decide) (by decide) dX8_settle_44 ?_
      refine J_icmp_eq (tgt := 63) dX8_settle_46 (by decide) (fun c => ?_) (fun c => ?_)
      · replace K := K.1 c
        refine J_aload_n rfl dX8_settle_63 ?_
        refine J_getS (r := 12) fl_RX8_48 rfl (Or.inl rfl) rfl dX8_settle_64 ?_
        refine J_aload_n rfl dX8_settle_67 ?_
        refine J_getS (r := 14) fl_RX8_54 rfl (Or.inl rfl) rfl dX8_settle_68 ?_
        refine J_aload_n rfl dX8_settle_71 ?_
        refine J_getIe fl_RX8_292 rfl (Or.inl rfl) gi_eq dX8_settle_72 ?_
        refine J_ialoade (Or.inl rfl) K.1 (gi_no (by decide)) dX8_settle_75 ?_
        replace K := K.2
        refine J_aload_n rfl dX8_settle_76 ?_
        refine J_getIe fl_RX8_289 rfl (Or.inl rfl) (gi_nk (by decide)) dX8_settle_77 ?_
        refine J_iastore (Or.inl rfl) K.1 dX8_settle_80 ?_
        replace K := K.2
        replace K := K _ rfl
        refine J_goto (tgt := 0) dX8_settle_81 (by decide) ?_
        exact J_forget (loc' := [some (vR (some 0)), some (vI y1)]) (And.intro (Or.inr rfl) (And.intro (Or.inr rfl) True.intro)) K
      · replace K := K.2 c
        refine J_aload_n rfl dX8_settle_49 ?_
        refine J_getS (r := 13) fl_RX8_51 rfl (Or.inl rfl) rfl dX8_settle_50 ?_
        refine J_aload_n rfl dX8_settle_53 ?_
        refine J_getIe fl_RX8_292 rfl (Or.inl rfl) gi_eq dX8_settle_54 ?_
        refine J_ialoade (Or.inl rfl) K.1 (gi_no (by decide)) dX8_settle_57 ?_
        replace K := K.2
        refine J_bipush (by decide) (by decide) dX8_settle_58 ?_
        refine J_icmp_ne (tgt := 84) dX8_settle_60 (by decide) (fun c => ?_) (fun c => ?_)
        · replace K := K.2 c
          refine J_aload_n rfl dX8_settle_84 ?_
          refine J_aload_n rfl dX8_settle_85 ?_
          refine J_getS (r := 13) fl_RX8_51 rfl (Or.inl rfl) rfl dX8_settle_86 ?_
          refine J_aload_n rfl dX8_settle_89 ?_
          refine J_getIe fl_RX8_292 rfl (Or.inl rfl) gi_eq dX8_settle_90 ?_
          refine J_ialoade (Or.inl rfl) K.1 (gi_no (by decide)) dX8_settle_93 ?_
          replace K := K.2
          refine J_iconst (by decide) dX8_settle_94 ?_
          refine J_b0 (J_callV (b1 := 0) (ci := 8) (vs := [vI (gi h 13 ((gi h 0 29) - 1)), vI 0]) (rest := []) (Or.inl rfl) ml_RX8_298 rfl (by decide) rfl rfl (Or.inl rfl) (Nat.le_of_ble_eq_true rfl) rfl dX8_settle_95 (c_X8_emit  K.1 ?_))
          replace K := K.2
          replace K := K _ rfl
          show J _ _ _ _ _ _ _ [] _
          refine J_goto (tgt := 0) dX8_settle_98 (by decide) ?_
          exact J_forget (loc' := [some (vR (some 0)), some (vI y1)]) (And.intro (Or.inr rfl) (And.intro (Or.inr rfl) True.intro)) K
        · replace K := K.1 c
          refine J_aload_n rfl dX8_settle_63 ?_
          refine J_getS (r := 12) fl_RX8_48 rfl (Or.inl rfl) rfl dX8_settle_64 ?_
          refine J_aload_n rfl dX8_settle_67 ?_
          refine J_getS (r := 14) fl_RX8_54 rfl (Or.inl rfl) rfl dX8_settle_68 ?_
          refine J_aload_n rfl dX8_settle_71 ?_
          refine J_getIe fl_RX8_292 rfl (Or.inl rfl) gi_eq dX8_settle_72 ?_
          refine J_ialoade (Or.inl rfl) K.1 (gi_no (by decide)) dX8_settle_75 ?_
          replace K := K.2
          refine J_aload_n rfl dX8_settle_76 ?_
          refine J_getIe fl_RX8_289 rfl (Or.inl rfl) (gi_nk (by decide)) dX8_settle_77 ?_
          refine J_iastore (Or.inl rfl) K.1 dX8_settle_80 ?_
          replace K := K.2
          replace K := K _ rfl
          refine J_goto (tgt := 0) dX8_settle_81 (by decide) ?_
          exact J_forget (loc' := [some (vR (some 0)), some (vI y1)]) (And.intro (Or.inr rfl) (And.intro (Or.inr rfl) True.intro)) K
set_option maxRecDepth 20000 in
set_option maxHeartbeats 2000000 in
theorem w_X8_settle {d b : Nat} {Q : Option AV → AH → Prop} {h : AH} {x1 : Int}  (K : Lp_X8_settle_0 d b Q x1 h) : WM GM (d + 1) b mX8_settle [vR (some 0), vI x1] h Q := by
  refine WM_introE (loc' := [some (vR (some 0)), some (vI x1)]) rfl (by decide) (Nat.le_of_ble_eq_true rfl) ?_
  exact J_forget (loc' := [some (vR (some 0)), some (vI x1)]) (And.intro (Or.inr rfl) (And.intro (Or.inr rfl) True.intro)) K
def Lp_X8_partAt_4 (d b : Nat) (Q : Option AV → AH → Prop)  (y1 : Int) (y2 : Int) (h : AH) : Prop := J GM (d + 1) b mX8_partAt Q 4 [some (vR (some 0)), some (vI y1), some (vI y2)] [] h
set_option maxRecDepth 20000 in
set_option maxHeartbeats 2000000 in
theorem l_X8_partAt_4 {d b : Nat} {Q : Option AV → AH → Prop} {h : AH}  {y1 : Int} {y2 : Int}  (K : (11 ≤ y2 → Q (some (vI y1)) h) ∧ (¬(11 ≤ y2) → (0 ≤ y2 ∧ y2 < 11) ∧ (gi h 0 16 = 1 ∧ gl h 0 17 = (gl h 15 y2) → R32 (y2 + 1) ∧ R32 (y2 + 1) ∧ Lp_X8_partAt_4 d b Q (y2 + 1) (y2 + 1) h) ∧ (¬(gi h 0 16 = 1 ∧ gl h 0 17 = (gl h 15 y2)) → R32 (y2 + 1) ∧ Lp_X8_partAt_4 d b Q y1 (y2 + 1) h))) : Lp_X8_partAt_4 d b Q y1 y2 h := by
  unfold Lp_X8_partAt_4
  refine J_iload_n rfl dX8_partAt_4 ?_
  refine J_bipush (by decide) (by decide) dX8_partAt_5 ?_
  refine J_icmp_ge (tgt := 37) dX8_partAt_7 (by decide) (fun c => ?_) (fun c => ?_)
  · replace K := K.1 c
    refine J_iload_n rfl dX8_partAt_37 ?_
    exact J_ireturn rfl dX8_partAt_38 K
  · replace K := K.2 c
    refine J_aload_n rfl dX8_partAt_10 ?_
    refine J_aload_n rfl dX8_partAt_11 ?_
    refine J_getS (r := 15) fl_RX8_79 rfl (Or.inl rfl) rfl dX8_partAt_12 ?_
    refine J_iload_n rfl dX8_partAt_15 ?_
    refine J_laload (Or.inl rfl) K.1 dX8_partAt_16 ?_
    replace K := K.2
    refine J_b0 (J_callV (b1 := 0) (ci := 8) (vs := [vL (gl h 15 y2)]) (rest := []) (Or.inl rfl) ml_RX8_308 rfl (by decide) rfl rfl (Or.inl rfl) (Nat.le_of_ble_eq_true rfl) rfl dX8_partAt_17 (c_X8_isWord   ?_))
    show J _ _ _ _ _ _ _ [vI (b2i (gi h 0 16 = 1 ∧ gl h 0 17 = (gl h 15 y2)))] _
    refine J_if_eq (tgt := 29) dX8_partAt_20 (by decide) (fun c => ?_) (fun c => ?_)
    · replace K := K.2 (b2i_0.mp c)
      refine J_iload_n rfl dX8_partAt_29 ?_
      refine J_istore_n (loc' := [some (vR (some 0)), some (vI y1), some (vI y2)]) (by decide) rfl dX8_partAt_30 ?_
      refine J_iinc (loc' := [some (vR (some 0)), some (vI y1), some (vI (y2 + 1))]) (by decide) rfl K.1 rfl dX8_partAt_31 ?_
      replace K := K.2
      refine J_goto (tgt := 4) dX8_partAt_34 (by decide) ?_
      exact J_forget (loc' := [some (vR (some 0)), some (vI y1), some (vI (y2 + 1))]) (And.intro (Or.inr rfl) (And.intro (Or.inr rfl) (And.intro (Or.inr rfl) True.intro))) K
    · replace K := K.1 (b2i_n0.mp c)
      refine J_iload_n rfl dX8_partAt_23 ?_
      refine J_iconst (by decide) dX8_partAt_24 ?_
      refine J_iadd K.1 dX8_partAt_25 ?_
      replace K := K.2
      refine J_goto (tgt := 30) dX8_partAt_26 (by decide) ?_
      refine J_istore_n (loc' := [some (vR (some 0)), some (vI (y2 + 1)), some (vI y2)]) (by decide) rfl dX8_partAt_30 ?_
      refine J_iinc (loc' := [some (vR (some 0)), some (vI (y2 + 1)), some (vI (y2 + 1))]) (by decide) rfl K.1 rfl dX8_partAt_31 ?_
      replace K := K.2
      refine J_goto (tgt := 4) dX8_partAt_34 (by decide) ?_
      exact J_forget (loc' := [some (vR (some 0)), some (vI (y2 + 1)), some (vI (y2 + 1))]) (And.intro (Or.inr rfl) (And.intro (Or.inr rfl) (And.intro (Or.inr rfl) True.intro))) K
set_option maxRecDepth 20000 in
set_option maxHeartbeats 2000000 in
theorem w_X8_partAt {d b : Nat} {Q : Option AV → AH → Prop} {h : AH}   (K : Lp_X8_partAt_4 d b Q (-1) 0 h) : WM GM (d + 1) b mX8_partAt [vR (some 0)] h Q := by
  refine WM_introE (loc' := [some (vR (some 0)), none, none]) rfl (by decide) (Nat.le_of_ble_eq_true rfl) ?_
  refine J_iconst (by decide) dX8_partAt_0 ?_
  refine J_istore_n (loc' := [some (vR (some 0)), some (vI (-1)), none]) (by decide) rfl dX8_partAt_1 ?_
  refine J_iconst (by decide) dX8_partAt_2 ?_
  refine J_istore_n (loc' := [some (vR (some 0)), some (vI (-1)), some (vI 0)]) (by decide) rfl dX8_partAt_3 ?_
  exact J_forget (loc' := [some (vR (some 0)), some (vI (-1)), some (vI 0)]) (And.intro (Or.inr rfl) (And.intro (Or.inr rfl) (And.intro (Or.inr rfl) True.intro))) K
def Lp_X8_orderPartAt_4 (d b : Nat) (Q : Option AV → AH → Prop)  (y1 : Int) (y2 : Int) (h : AH) : Prop := J GM (d + 1) b mX8_orderPartAt Q 4 [some (vR (some 0)), some (vI y1), some (vI y2)] [] h
set_option maxRecDepth 20000 in
set_option maxHeartbeats 2000000 in
theorem l_X8_orderPartAt_4 {d b : Nat} {Q : Option AV → AH → Prop} {h : AH}  {y1 : Int} {y2 : Int}  (K : (7 ≤ y2 → Q (some (vI y1)) h) ∧ (¬(7 ≤ y2) → (0 ≤ y2 ∧ y2 < 7) ∧ (gi h 0 16 = 1 ∧ gl h 0 17 = (gl h 16 y2) → R32 (y2 + 1) ∧ R32 (y2 + 1) ∧ Lp_X8_orderPartAt_4 d b Q (y2 + 1) (y2 + 1) h) ∧ (¬(gi h 0 16 = 1 ∧ gl h 0 17 = (gl h 16 y2)) → R32 (y2 + 1) ∧ Lp_X8_orderPartAt_4 d b Q y1 (y2 + 1) h))) : Lp_X8_orderPartAt_4 d b Q y1 y2 h := by
  unfold Lp_X8_orderPartAt_4
  refine J_iload_n rfl dX8_orderPartAt_4 ?_
  refine J_bipush (by decide) (by decide) dX8_orderPartAt_5 ?_
  refine J_icmp_ge (tgt := 37) dX8_orderPartAt_7 (by decide) (fun c => ?_) (fun c => ?_)
  · replace K := K.1 c
    refine J_iload_n rfl dX8_orderPartAt_37 ?_
    exact J_ireturn rfl dX8_orderPartAt_38 K
  · replace K := K.2 c
    refine J_aload_n rfl dX8_orderPartAt_10 ?_
    refine J_aload_n rfl dX8_orderPartAt_11 ?_
    refine J_getS (r := 16) fl_RX8_91 rfl (Or.inl rfl) rfl dX8_orderPartAt_12 ?_
    refine J_iload_n rfl dX8_orderPartAt_15 ?_
    refine J_laload (Or.inl rfl) K.1 dX8_orderPartAt_16 ?_
    replace K := K.2
    refine J_b0 (J_callV (b1 := 0) (ci := 8) (vs := [vL (gl h 16 y2)]) (rest := []) (Or.inl rfl) ml_RX8_308 rfl (by decide) rfl rfl (Or.inl rfl) (Nat.le_of_ble_eq_true rfl) rfl dX8_orderPartAt_17 (c_X8_isWord   ?_))
    show J _ _ _ _ _ _ _ [vI (b2i (gi h 0 16 = 1 ∧ gl h 0 17 = (gl h 16 y2)))] _
    refine J_if_eq (tgt := 29) dX8_orderPartAt_20 (by decide) (fun c => ?_) (fun c => ?_)
    · replace K := K.2 (b2i_0.mp c)
      refine J_iload_n rfl dX8_orderPartAt_29 ?_
      refine J_istore_n (loc' := [some (vR (some 0)), some (vI y1), some (vI y2)]) (by decide) rfl dX8_orderPartAt_30 ?_
      refine J_iinc (loc' := [some (vR (some 0)), some (vI y1), some (vI (y2 + 1))]) (by decide) rfl K.1 rfl dX8_orderPartAt_31 ?_
      replace K := K.2
      refine J_goto (tgt := 4) dX8_orderPartAt_34 (by decide) ?_
      exact J_forget (loc' := [some (vR (some 0)), some (vI y1), some (vI (y2 + 1))]) (And.intro (Or.inr rfl) (And.intro (Or.inr rfl) (And.intro (Or.inr rfl) True.intro))) K
    · replace K := K.1 (b2i_n0.mp c)
      refine J_iload_n rfl dX8_orderPartAt_23 ?_
      refine J_iconst (by decide) dX8_orderPartAt_24 ?_
      refine J_iadd K.1 dX8_orderPartAt_25 ?_
      replace K := K.2
      refine J_goto (tgt := 30) dX8_orderPartAt_26 (by decide) ?_
      refine J_istore_n (loc' := [some (vR (some 0)), some (vI (y2 + 1)), some (vI y2)]) (by decide) rfl dX8_orderPartAt_30 ?_
      refine J_iinc (loc' := [some (vR (some 0)), some (vI (y2 + 1)), some (vI (y2 + 1))]) (by decide) rfl K.1 rfl dX8_orderPartAt_31 ?_
      replace K := K.2
      refine J_goto (tgt := 4) dX8_orderPartAt_34 (by decide) ?_
      exact J_forget (loc' := [some (vR (some 0)), some (vI (y2 + 1)), some (vI (y2 + 1))]) (And.intro (Or.inr rfl) (And.intro (Or.inr rfl) (And.intro (Or.inr rfl) True.intro))) K
set_option maxRecDepth 20000 in
set_option maxHeartbeats 2000000 in
theorem w_X8_orderPartAt {d b : Nat} {Q : Option AV → AH → Prop} {h : AH}   (K : Lp_X8_orderPartAt_4 d b Q (-1) 0 h) : WM GM (d + 1) b mX8_orderPartAt [vR (some 0)] h Q := by
  refine WM_introE (loc' := [some (vR (some 0)), none, none]) rfl (by decide) (Nat.le_of_ble_eq_true rfl) ?_
  refine J_iconst (by decide) dX8_orderPartAt_0 ?_
  refine J_istore_n (loc' := [some (vR (some 0)), some (vI (-1)), none]) (by decide) rfl dX8_orderPartAt_1 ?_
  refine J_iconst (by decide) dX8_orderPartAt_2 ?_
  refine J_istore_n (loc' := [some (vR (some 0)), some (vI (-1)), some (vI 0)]) (by decide) rfl dX8_orderPartAt_3 ?_
  exact J_forget (loc' := [some (vR (some 0)), some (vI (-1)), some (vI 0)]) (And.intro (Or.inr rfl) (And.intro (Or.inr rfl) (And.intro (Or.inr rfl) True.intro))) K
def Lp_X8_openBracket_18 (d b : Nat) (Q : Option AV → AH → Prop)  (y1 : Int) (h : AH) : Prop := J GM (d + 3) b mX8_openBracket Q 18 [some (vR (some 0)), some (vI y1)] [] h
set_option maxRecDepth 20000 in
set_option maxHeartbeats 2000000 in
theorem l_X8_openBracket_18 {d b : Nat} {Q : Option AV → AH → Prop} {h : AH}  {y1 : Int}  (K : (gi h 0 19 = 0 → R32 ((gi h 0 30) + 1) ∧ ∀ h1, h1 = si h 0 30 ((gi h 0 30) + 1) → (0 ≤ gi h1 0 29 ∧ gi h1 0 29 < 400) ∧ ∀ h2, h2 = si (si (si h1 13 (gi h1 0 29) y1) 14 (gi h1 0 29) 0) 0 29 (gi h1 0 29 + 1) → Q none h2) ∧ (¬(gi h 0 19 = 0) → Q none h)) : Lp_X8_openBracket_18 d b Q y1 h := by
  unfold Lp_X8_openBracket_18
  refine J_aload_n rfl dX8_openBracket_18 ?_
  refine J_getI fl_RX8_250 rfl (Or.inl rfl) dX8_openBracket_19 ?_
  refine J_if_ne (tgt := 41) dX8_openBracket_22 (by decide) (fun c => ?_) (fun c => ?_)
  · replace K := K.2 c
    exact J_return rfl dX8_openBracket_41 K
  · replace K := K.1 c
    refine J_aload_n rfl dX8_openBracket_25 ?_
    refine J_dup rfl dX8_openBracket_26 ?_
    refine J_getI fl_RX8_312 rfl (Or.inl rfl) dX8_openBracket_27 ?_
    refine J_iconst (by decide) dX8_openBracket_30 ?_
    refine J_iadd K.1 dX8_openBracket_31 ?_
    replace K := K.2
    refine J_putI fl_RX8_312 rfl (Or.inl rfl) dX8_openBracket_32 ?_
    replace K := K _ rfl
    refine J_aload_n rfl dX8_openBracket_35 ?_
    refine J_iload_n rfl dX8_openBracket_36 ?_
    refine J_iconst (by decide) dX8_openBracket_37 ?_
    refine J_b0 (J_callV (b1 := 0) (ci := 8) (vs := [vI y1, vI 0]) (rest := []) (Or.inl rfl) ml_RX8_315 rfl (by decide) rfl rfl (Or.inl rfl) (Nat.le_of_ble_eq_true rfl) rfl dX8_openBracket_38 (c_X8_push  K.1 ?_))
    replace K := K.2
    replace K := K _ rfl
    show J _ _ _ _ _ _ _ [] _
    exact J_return rfl dX8_openBracket_41 K
set_option maxRecDepth 20000 in
set_option maxHeartbeats 2000000 in
theorem w_X8_openBracket {d b : Nat} {Q : Option AV → AH → Prop} {h : AH} {x1 : Int}  (K : (8 ≤ gi h 0 30 → WM GM (d + 2) 0 mX8_must [vR (some 0), vI 0] h (fun r h1 => r = none ∧ Lp_X8_openBracket_18 d b Q x1 h1)) ∧ (¬(8 ≤ gi h 0 30) → WM GM (d + 2) 0 mX8_must [vR (some 0), vI 1] h (fun r h2 => r = none ∧ Lp_X8_openBracket_18 d b Q x1 h2))) : WM GM (d + 3) b mX8_openBracket [vR (some 0), vI x1] h Q := by
  refine WM_introE (loc' := [some (vR (some 0)), some (vI x1)]) rfl (by decide) (Nat.le_of_ble_eq_true rfl) ?_
  refine J_aload_n rfl dX8_openBracket_0 ?_
  refine J_aload_n rfl dX8_openBracket_1 ?_
  refine J_getI fl_RX8_312 rfl (Or.inl rfl) dX8_openBracket_2 ?_
  refine J_bipush (by decide) (by decide) dX8_openBracket_5 ?_
  refine J_icmp_ge (tgt := 14) dX8_openBracket_7 (by decide) (fun c => ?_) (fun c => ?_)
  · replace K := K.1 c
    refine J_iconst (by decide) dX8_openBracket_14 ?_
    refine J_b0 (J_callV (b1 := 0) (ci := 8) (vs := [vI 0]) (rest := []) (Or.inl rfl) ml_RX8_285 rfl (by decide) rfl rfl (Or.inl rfl) (Nat.le_of_ble_eq_true rfl) rfl dX8_openBracket_15 (WM_mono K (fun r h1 K => ?_)))
    obtain ⟨rfl, K⟩ := K
    show J _ _ _ _ _ _ _ [] _
    exact J_forget (loc' := [some (vR (some 0)), some (vI x1)]) (And.intro (Or.inr rfl) (And.intro (Or.inr rfl) True.intro)) K
  · replace K := K.2 c
    refine J_iconst (by decide) dX8_openBracket_10 ?_
    refine J_goto (tgt := 15) dX8_openBracket_11 (by decide) ?_
    refine J_b0 (J_callV (b1 := 0) (ci := 8) (vs := [vI 1]) (rest := []) (Or.inl rfl) ml_RX8_285 rfl (by decide) rfl rfl (Or.inl rfl) (Nat.le_of_ble_eq_true rfl) rfl dX8_openBracket_15 (WM_mono K (fun r h2 K => ?_)))
    obtain ⟨rfl, K⟩ := K
    show J _ _ _ _ _ _ _ [] _
    exact J_forget (loc' := [some (vR (some 0)), some (vI x1)]) (And.intro (Or.inr rfl) (And.intro (Or.inr rfl) True.intro)) K
def Lp_X8_leaf_22 (d b : Nat) (Q : Option AV → AH → Prop)  (y2 : Int) (y3 : Int) (h : AH) : Prop := J GM (d + 3) b mX8_leaf Q 22 [some (vR (some 0)), none, some (vI y2), some (vI y3)] [] h
set_option maxRecDepth 20000 in
set_option maxHeartbeats 2000000 in
theorem l_X8_leaf_22 {d b : Nat} {Q : Option AV → AH → Prop} {h : AH}  {y2 : Int} {y3 : Int}  (K : (gi h 0 19 = 0 → (0 ≤ gi h 0 23 ∧ gi h 0 23 < 400) ∧ ∀ h1, h1 = si (si (si h 11 (gi h 0 23) y2) 12 (gi h 0 23) y3) 0 23 (gi h 0 23 + 1) → R32 ((gi h1 0 26) + 1) ∧ ∀ h2, h2 = si h1 0 26 ((gi h1 0 26) + 1) → Q none h2) ∧ (¬(gi h 0 19 = 0) → Q none h)) : Lp_X8_leaf_22 d b Q y2 y3 h := by
  unfold Lp_X8_leaf_22
  refine J_aload_n rfl dX8_leaf_22 ?_
  refine J_getI fl_RX8_250 rfl (Or.inl rfl) dX8_leaf_23 ?_
  refine J_if_ne (tgt := 45) dX8_leaf_26 (by decide) (fun c => ?_) (fun c => ?_)
  · replace K := K.2 c
    exact J_return rfl dX8_leaf_45 K
  · replace K := K.1 c
    refine J_aload_n rfl dX8_leaf_29 ?_
    refine J_iload_n rfl dX8_leaf_30 ?_
    refine J_iload_n rfl dX8_leaf_31 ?_
    refine J_b0 (J_callV (b1 := 0) (ci := 8) (vs := [vI y2, vI y3]) (rest := []) (Or.inl rfl) ml_RX8_298 rfl (by decide) rfl rfl (Or.inl rfl) (Nat.le_of_ble_eq_true rfl) rfl dX8_leaf_32 (c_X8_emit  K.1 ?_))
    replace K := K.2
    replace K := K _ rfl
    show J _ _ _ _ _ _ _ [] _
    refine J_aload_n rfl dX8_leaf_35 ?_
    refine J_dup rfl dX8_leaf_36 ?_
    refine J_getI fl_RX8_318 rfl (Or.inl rfl) dX8_leaf_37 ?_
    refine J_iconst (by decide) dX8_leaf_40 ?_
    refine J_iadd K.1 dX8_leaf_41 ?_
    replace K := K.2
    refine J_putI fl_RX8_318 rfl (Or.inl rfl) dX8_leaf_42 ?_
    replace K := K _ rfl
    exact J_return rfl dX8_leaf_45 K
set_option maxRecDepth 20000 in
set_option maxHeartbeats 2000000 in
theorem w_X8_leaf {d b : Nat} {Q : Option AV → AH → Prop} {h : AH} {x1 : Int} {x2 : Int} {x3 : Int}  (K : (x1 = 0 → WM GM (d + 2) 0 mX8_must [vR (some 0), vI 0] h (fun r h1 => r = none ∧ Lp_X8_leaf_22 d b Q x2 x3 h1)) ∧ (¬(x1 = 0) → (50 ≤ gi h 0 26 → WM GM (d + 2) 0 mX8_must [vR (some 0), vI 0] h (fun r h2 => r = none ∧ Lp_X8_leaf_22 d b Q x2 x3 h2)) ∧ (¬(50 ≤ gi h 0 26) → WM GM (d + 2) 0 mX8_must [vR (some 0), vI 1] h (fun r h3 => r = none ∧ Lp_X8_leaf_22 d b Q x2 x3 h3)))) : WM GM (d + 3) b mX8_leaf [vR (some 0), vI x1, vI x2, vI x3] h Q := by
  refine WM_introE (loc' := [some (vR (some 0)), some (vI x1), some (vI x2), some (vI x3)]) rfl (by decide) (Nat.le_of_ble_eq_true rfl) ?_
  refine J_aload_n rfl dX8_leaf_0 ?_
  refine J_iload_n rfl dX8_leaf_1 ?_
  refine J_if_eq (tgt := 18) dX8_leaf_2 (by decide) (fun c => ?_) (fun c => ?_)
  · replace K := K.1 c
    refine J_iconst (by decide) dX8_leaf_18 ?_
    refine J_b0 (J_callV (b1 := 0) (ci := 8) (vs := [vI 0]) (rest := []) (Or.inl rfl) ml_RX8_285 rfl (by decide) rfl rfl (Or.inl rfl) (Nat.le_of_ble_eq_true rfl) rfl dX8_leaf_19 (WM_mono K (fun r h1 K => ?_)))
    obtain ⟨rfl, K⟩ := K
    show J _ _ _ _ _ _ _ [] _
    exact J_forget (loc' := [some (vR (some 0)), none, some (vI x2), some (vI x3)]) (And.intro (Or.inr rfl) (And.intro (Or.inl rfl) (And.intro (Or.inr rfl) (And.intro (Or.inr rfl) True.intro)))) K
  · replace K := K.2 c
    refine J_aload_n rfl dX8_leaf_5 ?_
    refine J_getI fl_RX8_318 rfl (Or.inl rfl) dX8_leaf_6 ?_
    refine J_bipush (by decide) (by decide) dX8_leaf_9 ?_
    refine J_icmp_ge (tgt := 18) dX8_leaf_11 (by decide) (fun c => ?_) (fun c => ?_)
    · replace K := K.1 c
      refine J_iconst (by decide) dX8_leaf_18 ?_
      refine J_b0 (J_callV (b1 := 0) (ci := 8) (vs := [vI 0]) (rest := []) (Or.inl rfl) ml_RX8_285 rfl (by decide) rfl rfl (Or.inl rfl) (Nat.le_of_ble_eq_true rfl) rfl dX8_leaf_19 (WM_mono K (fun r h2 K => ?_)))
      obtain ⟨rfl, K⟩ := K
      show J _ _ _ _ _ _ _ [] _
      exact J_forget (loc' := [some (vR (some 0)), none, some (vI x2), some (vI x3)]) (And.intro (Or.inr rfl) (And.intro (Or.inl rfl) (And.intro (Or.inr rfl) (And.intro (Or.inr rfl) True.intro)))) K
    · replace K := K.2 c
      refine J_iconst (by decide) dX8_leaf_14 ?_
      refine J_goto (tgt := 19) dX8_leaf_15 (by decide) ?_
      refine J_b0 (J_callV (b1 := 0) (ci := 8) (vs := [vI 1]) (rest := []) (Or.inl rfl) ml_RX8_285 rfl (by decide) rfl rfl (Or.inl rfl) (Nat.le_of_ble_eq_true rfl) rfl dX8_leaf_19 (WM_mono K (fun r h3 K => ?_)))
      obtain ⟨rfl, K⟩ := K
      show J _ _ _ _ _ _ _ [] _
      exact J_forget (loc' := [some (vR (some 0)), none, some (vI x2), some (vI x3)]) (And.intro (Or.inr rfl) (And.intro (Or.inl rfl) (And.intro (Or.inr rfl) (And.intro (Or.inr rfl) True.intro)))) K
def Lp_X8_readPart_36 (d b : Nat) (Q : Option AV → AH → Prop)  (y1 : Int) (h : AH) : Prop := J GM (d + 4) b mX8_readPart Q 36 [some (vR (some 0)), some (vI y1), none, none] [] h
def Lp_X8_readPart_61 (d b : Nat) (Q : Option AV → AH → Prop)  (y1 : Int) (y2 : Int) (h : AH) : Prop := J GM (d + 4) b mX8_readPart Q 61 [some (vR (some 0)), some (vI y1), some (vI y2), none] [] h
def Lp_X8_readPart_102 (d b : Nat) (Q : Option AV → AH → Prop)  (y1 : Int) (h : AH) : Prop := J GM (d + 4) b mX8_readPart Q 102 [some (vR (some 0)), some (vI y1), none, none] [] h
set_option maxRecDepth 20000 in
set_option maxHeartbeats 2000000 in
theorem l_X8_readPart_36 {d b : Nat} {Q : Option AV → AH → Prop} {h : AH}  {y1 : Int}  (K : (gi h 0 16 = 2 → (1000 < gl h 0 17 → Lp_X8_readPart_61 d b Q y1 0 h) ∧ (¬(1000 < gl h 0 17) → Lp_X8_readPart_61 d b Q y1 1 h)) ∧ (¬(gi h 0 16 = 2) → Lp_X8_readPart_61 d b Q y1 0 h)) : Lp_X8_readPart_36 d b Q y1 h := by
  unfold Lp_X8_readPart_36
  refine J_aload_n rfl dX8_readPart_36 ?_
  refine J_getI fl_RX8_270 rfl (Or.inl rfl) dX8_readPart_37 ?_
  refine J_iconst (by decide) dX8_readPart_40 ?_
  refine J_icmp_ne (tgt := 59) dX8_readPart_41 (by decide) (fun c => ?_) (fun c => ?_)
  · replace K := K.2 c
    refine J_iconst (by decide) dX8_readPart_59 ?_
    refine J_istore_n (loc' := [some (vR (some 0)), some (vI y1), some (vI 0), none]) (by decide) rfl dX8_readPart_60 ?_
    exact J_forget (loc' := [some (vR (some 0)), some (vI y1), some (vI 0), none]) (And.intro (Or.inr rfl) (And.intro (Or.inr rfl) (And.intro (Or.inr rfl) (And.intro (Or.inl rfl) True.intro)))) K
  · replace K := K.1 c
    refine J_aload_n rfl dX8_readPart_44 ?_
    refine J_getL fl_RX8_260 rfl (Or.inl rfl) dX8_readPart_45 ?_
    refine J_ldc2 (n := 1000) (by decide) (by decide) kc_RX8_337 dX8_readPart_48 ?_
    refine J_lcmp dX8_readPart_51 ?_
    refine J_if_gt (tgt := 59) dX8_readPart_52 (by decide) (fun c => ?_) (fun c => ?_)
    · replace K := K.1 (zc_gt.mp c)
      refine J_iconst (by decide) dX8_readPart_59 ?_
      refine J_istore_n (loc' := [some (vR (some 0)), some (vI y1), some (vI 0), none]) (by decide) rfl dX8_readPart_60 ?_
      exact J_forget (loc' := [some (vR (some 0)), some (vI y1), some (vI 0), none]) (And.intro (Or.inr rfl) (And.intro (Or.inr rfl) (And.intro (Or.inr rfl) (And.intro (Or.inl rfl) True.intro)))) K
    · replace K := K.2 (fun z => c (zc_gt.mpr z))
      refine J_iconst (by decide) dX8_readPart_55 ?_
      refine J_goto (tgt := 60) dX8_readPart_56 (by decide) ?_
      refine J_istore_n (loc' := [some (vR (some 0)), some (vI y1), some (vI 1), none]) (by decide) rfl dX8_readPart_60 ?_
      exact J_forget (loc' := [some (vR (some 0)), some (vI y1), some (vI 1), none]) (And.intro (Or.inr rfl) (And.intro (Or.inr rfl) (And.intro (Or.inr rfl) (And.intro (Or.inl rfl) True.intro)))) K
set_option maxRecDepth 20000 in
set_option maxHeartbeats 2000000 in
theorem l_X8_readPart_61 {d b : Nat} {Q : Option AV → AH → Prop} {h : AH}  {y1 : Int} {y2 : Int}  (K : (y1 = (-1) → (y2 = 0 → (y1 = (-1) → (y2 = 0 → WM GM (d + 3) 0 mX8_leaf [vR (some 0), vI 0, vI 0, vI 0] h (fun r h7 => r = none ∧ Lp_X8_readPart_102 d b Q y1 h7)) ∧ (¬(y2 = 0) → WM GM (d + 3) 0 mX8_leaf [vR (some 0), vI 0, vI 0, vI (zl2i (gl h 0 17))] h (fun r h8 => r = none ∧ Lp_X8_readPart_102 d b Q y1 h8))) ∧ (¬(y1 = (-1)) → (y2 = 0 → WM GM (d + 3) 0 mX8_leaf [vR (some 0), vI 0, vI y1, vI 0] h (fun r h5 => r = none ∧ Lp_X8_readPart_102 d b Q y1 h5)) ∧ (¬(y2 = 0) → WM GM (d + 3) 0 mX8_leaf [vR (some 0), vI 0, vI y1, vI (zl2i (gl h 0 17))] h (fun r h6 => r = none ∧ Lp_X8_readPart_102 d b Q y1 h6)))) ∧ (¬(y2 = 0) → (y1 = (-1) → (y2 = 0 → WM GM (d + 3) 0 mX8_leaf [vR (some 0), vI 1, vI 0, vI 0] h (fun r h11 => r = none ∧ Lp_X8_readPart_102 d b Q y1 h11)) ∧ (¬(y2 = 0) → WM GM (d + 3) 0 mX8_leaf [vR (some 0), vI 1, vI 0, vI (zl2i (gl h 0 17))] h (fun r h12 => r = none ∧ Lp_X8_readPart_102 d b Q y1 h12))) ∧ (¬(y1 = (-1)) → (y2 = 0 → WM GM (d + 3) 0 mX8_leaf [vR (some 0), vI 1, vI y1, vI 0] h (fun r h9 => r = none ∧ Lp_X8_readPart_102 d b Q y1 h9)) ∧ (¬(y2 = 0) → WM GM (d + 3) 0 mX8_leaf [vR (some 0), vI 1, vI y1, vI (zl2i (gl h 0 17))] h (fun r h10 => r = none ∧ Lp_X8_readPart_102 d b Q y1 h10))))) ∧ (¬(y1 = (-1)) → (y1 = (-1) → (y2 = 0 → WM GM (d + 3) 0 mX8_leaf [vR (some 0), vI 1, vI 0, vI 0] h (fun r h3 => r = none ∧ Lp_X8_readPart_102 d b Q y1 h3)) ∧ (¬(y2 = 0) → WM GM (d + 3) 0 mX8_leaf [vR (some 0), vI 1, vI 0, vI (zl2i (gl h 0 17))] h (fun r h4 => r = none ∧ Lp_X8_readPart_102 d b Q y1 h4))) ∧ (¬(y1 = (-1)) → (y2 = 0 → WM GM (d + 3) 0 mX8_leaf [vR (some 0), vI 1, vI y1, vI 0] h (fun r h1 => r = none ∧ Lp_X8_readPart_102 d b Q y1 h1)) ∧ (¬(y2 = 0) → WM GM (d + 3) 0 mX8_leaf [vR (some 0), vI 1, vI y1, vI (zl2i (gl h 0 17))] h (fun r h2 => r = none ∧ Lp_X8_readPart_102 d b Q y1 h2))))) : Lp_X8_readPart_61 d b Q y1 y2 h := by
  unfold Lp_X8_readPart_61
  refine J_aload_n rfl dX8_readPart_61 ?_
  refine J_iload_n rfl dX8_readPart_62 ?_
  refine J_iconst (by decide) dX8_readPart_63 ?_
  refine J_icmp_ne (tgt := 71) dX8_readPart_64 (by decide) (fun c => ?_) (fun c => ?_)
  · replace K := K.2 c
    refine J_iconst (by decide) dX8_readPart_71 ?_
    refine J_goto (tgt := 76) dX8_readPart_72 (by decide) ?_
    refine J_iload_n rfl dX8_readPart_76 ?_
    refine J_iconst (by decide) dX8_readPart_77 ?_
    refine J_icmp_ne (tgt := 85) dX8_readPart_78 (by decide) (fun c => ?_) (fun c => ?_)
    · replace K := K.2 c
      refine J_iload_n rfl dX8_readPart_85 ?_
      refine J_iload_n rfl dX8_readPart_86 ?_
      refine J_if_eq (tgt := 98) dX8_readPart_87 (by decide) (fun c => ?_) (fun c => ?_)
      · replace K := K.1 c
        refine J_iconst (by decide) dX8_readPart_98 ?_
        refine J_b0 (J_callV (b1 := 0) (ci := 8) (vs := [vI 1, vI y1, vI 0]) (rest := []) (Or.inl rfl) ml_RX8_339 rfl (by decide) rfl rfl (Or.inl rfl) (Nat.le_of_ble_eq_true rfl) rfl dX8_readPart_99 (WM_mono K (fun r h1 K => ?_)))
        obtain ⟨rfl, K⟩ := K
        show J _ _ _ _ _ _ _ [] _
        exact J_forget (loc' := [some (vR (some 0)), some (vI y1), none, none]) (And.intro (Or.inr rfl) (And.intro (Or.inr rfl) (And.intro (Or.inl rfl) (And.intro (Or.inl rfl) True.intro)))) K
      · replace K := K.2 c
        refine J_aload_n rfl dX8_readPart_90 ?_
        refine J_getL fl_RX8_260 rfl (Or.inl rfl) dX8_readPart_91 ?_
        refine J_l2i dX8_readPart_94 ?_
        refine J_goto (tgt := 99) dX8_readPart_95 (by decide) ?_
        refine J_b0 (J_callV (b1 := 0) (ci := 8) (vs := [vI 1, vI y1, vI (zl2i (gl h 0 17))]) (rest := []) (Or.inl rfl) ml_RX8_339 rfl (by decide) rfl rfl (Or.inl rfl) (Nat.le_of_ble_eq_true rfl) rfl dX8_readPart_99 (WM_mono K (fun r h2 K => ?_)))
        obtain ⟨rfl, K⟩ := K
        show J _ _ _ _ _ _ _ [] _
        exact J_forget (loc' := [some (vR (some 0)), some (vI y1), none, none]) (And.intro (Or.inr rfl) (And.intro (Or.inr rfl) (And.intro (Or.inl rfl) (And.intro (Or.inl rfl) True.intro)))) K
    · replace K := K.1 c
      refine J_iconst (by decide) dX8_readPart_81 ?_
      refine J_goto (tgt := 86) dX8_readPart_82 (by decide) ?_
      refine J_iload_n rfl dX8_readPart_86 ?_
      refine J_if_eq (tgt := 98) dX8_readPart_87 (by decide) (fun c => ?_) (fun c => ?_)
      · replace K := K.1 c
        refine J_iconst (by decide) dX8_readPart_98 ?_
        refine J_b0 (J_callV (b1 := 0) (ci := 8) (vs := [vI 1, vI 0, vI 0]) (rest := []) (Or.inl rfl) ml_RX8_339 rfl (by decide) rfl rfl (Or.inl rfl) (Nat.le_of_ble_eq_true rfl) rfl dX8_readPart_99 (WM_mono K (fun r h3 K => ?_)))
        obtain ⟨rfl, K⟩ := K
        show J _ _ _ _ _ _ _ [] _
        exact J_forget (loc' := [some (vR (some 0)), some (vI y1), none, none]) (And.intro (Or.inr rfl) (And.intro (Or.inr rfl) (And.intro (Or.inl rfl) (And.intro (Or.inl rfl) True.intro)))) K
      · replace K := K.2 c
        refine J_aload_n rfl dX8_readPart_90 ?_
        refine J_getL fl_RX8_260 rfl (Or.inl rfl) dX8_readPart_91 ?_
        refine J_l2i dX8_readPart_94 ?_
        refine J_goto (tgt := 99) dX8_readPart_95 (by decide) ?_
        refine J_b0 (J_callV (b1 := 0) (ci := 8) (vs := [vI 1, vI 0, vI (zl2i (gl h 0 17))]) (rest := []) (Or.inl rfl) ml_RX8_339 rfl (by decide) rfl rfl (Or.inl rfl) (Nat.le_of_ble_eq_true rfl) rfl dX8_readPart_99 (WM_mono K (fun r h4 K => ?_)))
        obtain ⟨rfl, K⟩ := K
        show J _ _ _ _ _ _ _ [] _
        exact J_forget (loc' := [some (vR (some 0)), some (vI y1), none, none]) (And.intro (Or.inr rfl) (And.intro (Or.inr rfl) (And.intro (Or.inl rfl) (And.intro (Or.inl rfl) True.intro)))) K
  · replace K := K.1 c
    refine J_iload_n rfl dX8_readPart_67 ?_
    refine J_if_eq (tgt := 75) dX8_readPart_68 (by decide) (fun c => ?_) (fun c => ?_)
    · replace K := K.1 c
      refine J_iconst (by decide) dX8_readPart_75 ?_
      refine J_iload_n rfl dX8_readPart_76 ?_
      refine J_iconst (by decide) dX8_readPart_77 ?_
      refine J_icmp_ne (tgt := 85) dX8_readPart_78 (by decide) (fun c => ?_) (fun c => ?_)
      · replace K := K.2 c
        refine J_iload_n rfl dX8_readPart_85 ?_
        refine J_iload_n rfl dX8_readPart_86 ?_
        refine J_if_eq (tgt := 98) dX8_readPart_87 (by decide) (fun c => ?_) (fun c => ?_)
        · replace K := K.1 c
          refine J_iconst (by decide) dX8_readPart_98 ?_
          refine J_b0 (J_callV (b1 := 0) (ci := 8) (vs := [vI 0, vI y1, vI 0]) (rest := []) (Or.inl rfl) ml_RX8_339 rfl (by decide) rfl rfl (Or.inl rfl) (Nat.le_of_ble_eq_true rfl) rfl dX8_readPart_99 (WM_mono K (fun r h5 K => ?_)))
          obtain ⟨rfl, K⟩ := K
          show J _ _ _ _ _ _ _ [] _
          exact J_forget (loc' := [some (vR (some 0)), some (vI y1), none, none]) (And.intro (Or.inr rfl) (And.intro (Or.inr rfl) (And.intro (Or.inl rfl) (And.intro (Or.inl rfl) True.intro)))) K
        · replace K := K.2 c
          refine J_aload_n rfl dX8_readPart_90 ?_
          refine J_getL fl_RX8_260 rfl (Or.inl rfl) dX8_readPart_91 ?_
          refine J_l2i dX8_readPart_94 ?_
          refine J_goto (tgt := 99) dX8_readPart_95 (by decide) ?_
          refine J_b0 (J_callV (b1 := 0) (ci := 8) (vs := [vI 0, vI y1, vI (zl2i (gl h 0 17))]) (rest := []) (Or.inl rfl) ml_RX8_339 rfl (by decide) rfl rfl (Or.inl rfl) (Nat.le_of_ble_eq_true rfl) rfl dX8_readPart_99 (WM_mono K (fun r h6 K => ?_)))
          obtain ⟨rfl, K⟩ := K
          show J _ _ _ _ _ _ _ [] _
          exact J_forget (loc' := [some (vR (some 0)), some (vI y1), none, none]) (And.intro (Or.inr rfl) (And.intro (Or.inr rfl) (And.intro (Or.inl rfl) (And.intro (Or.inl rfl) True.intro)))) K
      · replace K := K.1 c
        refine J_iconst (by decide) dX8_readPart_81 ?_
        refine J_goto (tgt := 86) dX8_readPart_82 (by decide) ?_
        refine J_iload_n rfl dX8_readPart_86 ?_
        refine J_if_eq (tgt := 98) dX8_readPart_87 (by decide) (fun c => ?_) (fun c => ?_)
        · replace K := K.1 c
          refine J_iconst (by decide) dX8_readPart_98 ?_
          refine J_b0 (J_callV (b1 := 0) (ci := 8) (vs := [vI 0, vI 0, vI 0]) (rest := []) (Or.inl rfl) ml_RX8_339 rfl (by decide) rfl rfl (Or.inl rfl) (Nat.le_of_ble_eq_true rfl) rfl dX8_readPart_99 (WM_mono K (fun r h7 K => ?_)))
          obtain ⟨rfl, K⟩ := K
          show J _ _ _ _ _ _ _ [] _
          exact J_forget (loc' := [some (vR (some 0)), some (vI y1), none, none]) (And.intro (Or.inr rfl) (And.intro (Or.inr rfl) (And.intro (Or.inl rfl) (And.intro (Or.inl rfl) True.intro)))) K
        · replace K := K.2 c
          refine J_aload_n rfl dX8_readPart_90 ?_
          refine J_getL fl_RX8_260 rfl (Or.inl rfl) dX8_readPart_91 ?_
          refine J_l2i dX8_readPart_94 ?_
          refine J_goto (tgt := 99) dX8_readPart_95 (by decide) ?_
          refine J_b0 (J_callV (b1 := 0) (ci := 8) (vs := [vI 0, vI 0, vI (zl2i (gl h 0 17))]) (rest := []) (Or.inl rfl) ml_RX8_339 rfl (by decide) rfl rfl (Or.inl rfl) (Nat.le_of_ble_eq_true rfl) rfl dX8_readPart_99 (WM_mono K (fun r h8 K => ?_)))
          obtain ⟨rfl, K⟩ := K
          show J _ _ _ _ _ _ _ [] _
          exact J_forget (loc' := [some (vR (some 0)), some (vI y1), none, none]) (And.intro (Or.inr rfl) (And.intro (Or.inr rfl) (And.intro (Or.inl rfl) (And.intro (Or.inl rfl) True.intro)))) K
    · replace K := K.2 c
      refine J_iconst (by decide) dX8_readPart_71 ?_
      refine J_goto (tgt := 76) dX8_readPart_72 (by decide) ?_
      refine J_iload_n rfl dX8_readPart_76 ?_
      refine J_iconst (by decide) dX8_readPart_77 ?_
      refine J_icmp_ne (tgt := 85) dX8_readPart_78 (by decide) (fun c => ?_) (fun c => ?_)
      · replace K := K.2 c
        refine J_iload_n rfl dX8_readPart_85 ?_
        refine J_iload_n rfl dX8_readPart_86 ?_
        refine J_if_eq (tgt := 98) dX8_readPart_87 (by decide) (fun c => ?_) (fun c => ?_)
        · replace K := K.1 c
          refine J_iconst (by decide) dX8_readPart_98 ?_
          refine J_b0 (J_callV (b1 := 0) (ci := 8) (vs := [vI 1, vI y1, vI 0]) (rest := []) (Or.inl rfl) ml_RX8_339 rfl (by decide) rfl rfl (Or.inl rfl) (Nat.le_of_ble_eq_true rfl) rfl dX8_readPart_99 (WM_mono K (fun r h9 K => ?_)))
          obtain ⟨rfl, K⟩ := K
          show J _ _ _ _ _ _ _ [] _
          exact J_forget (loc' := [some (vR (some 0)), some (vI y1), none, none]) (And.intro (Or.inr rfl) (And.intro (Or.inr rfl) (And.intro (Or.inl rfl) (And.intro (Or.inl rfl) True.intro)))) K
        · replace K := K.2 c
          refine J_aload_n rfl dX8_readPart_90 ?_
          refine J_getL fl_RX8_260 rfl (Or.inl rfl) dX8_readPart_91 ?_
          refine J_l2i dX8_readPart_94 ?_
          refine J_goto (tgt := 99) dX8_readPart_95 (by decide) ?_
          refine J_b0 (J_callV (b1 := 0) (ci := 8) (vs := [vI 1, vI y1, vI (zl2i (gl h 0 17))]) (rest := []) (Or.inl rfl) ml_RX8_339 rfl (by decide) rfl rfl (Or.inl rfl) (Nat.le_of_ble_eq_true rfl) rfl dX8_readPart_99 (WM_mono K (fun r h10 K => ?_)))
          obtain ⟨rfl, K⟩ := K
          show J _ _ _ _ _ _ _ [] _
          exact J_forget (loc' := [some (vR (some 0)), some (vI y1), none, none]) (And.intro (Or.inr rfl) (And.intro (Or.inr rfl) (And.intro (Or.inl rfl) (And.intro (Or.inl rfl) True.intro)))) K
      · replace K := K.1 c
        refine J_iconst (by decide) dX8_readPart_81 ?_
        refine J_goto (tgt := 86) dX8_readPart_82 (by decide) ?_
        refine J_iload_n rfl dX8_readPart_86 ?_
        refine J_if_eq (tgt := 98) dX8_readPart_87 (by decide) (fun c => ?_) (fun c => ?_)
        · replace K := K.1 c
          refine J_iconst (by decide) dX8_readPart_98 ?_
          refine J_b0 (J_callV (b1 := 0) (ci := 8) (vs := [vI 1, vI 0, vI 0]) (rest := []) (Or.inl rfl) ml_RX8_339 rfl (by decide) rfl rfl (Or.inl rfl) (Nat.le_of_ble_eq_true rfl) rfl dX8_readPart_99 (WM_mono K (fun r h11 K => ?_)))
          obtain ⟨rfl, K⟩ := K
          show J _ _ _ _ _ _ _ [] _
          exact J_forget (loc' := [some (vR (some 0)), some (vI y1), none, none]) (And.intro (Or.inr rfl) (And.intro (Or.inr rfl) (And.intro (Or.inl rfl) (And.intro (Or.inl rfl) True.intro)))) K
        · replace K := K.2 c
          refine J_aload_n rfl dX8_readPart_90 ?_
          refine J_getL fl_RX8_260 rfl (Or.inl rfl) dX8_readPart_91 ?_
          refine J_l2i dX8_readPart_94 ?_
          refine J_goto (tgt := 99) dX8_readPart_95 (by decide) ?_
          refine J_b0 (J_callV (b1 := 0) (ci := 8) (vs := [vI 1, vI 0, vI (zl2i (gl h 0 17))]) (rest := []) (Or.inl rfl) ml_RX8_339 rfl (by decide) rfl rfl (Or.inl rfl) (Nat.le_of_ble_eq_true rfl) rfl dX8_readPart_99 (WM_mono K (fun r h12 K => ?_)))
          obtain ⟨rfl, K⟩ := K
          show J _ _ _ _ _ _ _ [] _
          exact J_forget (loc' := [some (vR (some 0)), some (vI y1), none, none]) (And.intro (Or.inr rfl) (And.intro (Or.inr rfl) (And.intro (Or.inl rfl) (And.intro (Or.inl rfl) True.intro)))) K
set_option maxRecDepth 20000 in
set_option maxHeartbeats 2000000 in
theorem l_X8_readPart_102 {d b : Nat} {Q : Option AV → AH → Prop} {h : AH}  {y1 : Int}  (K : (gi h 0 20 = 0 → Q (some (vI 3)) h) ∧ (¬(gi h 0 20 = 0) → (y1 < 5 → Q (some (vI 3)) h) ∧ (¬(y1 < 5) → (gi h 0 19 = 0 → R32 ((gi h 0 23) - 1) ∧ WM GM (d + 3) 0 mX8_number [vR (some 0), vL 0, vL 7] h (fun r h1 => ∃ u16, r = some (vI u16) ∧ (0 ≤ (gi h 0 23) - 1 ∧ (gi h 0 23) - 1 < 400) ∧ ∀ h2, h2 = si h1 12 ((gi h 0 23) - 1) u16 → Q (some (vI 3)) h2)) ∧ (¬(gi h 0 19 = 0) → Q (some (vI 3)) h)))) : Lp_X8_readPart_102 d b Q y1 h := by
  unfold Lp_X8_readPart_102
  refine J_aload_n rfl dX8_readPart_102 ?_
  refine J_getI fl_RX8_327 rfl (Or.inl rfl) dX8_readPart_103 ?_
  refine J_if_eq (tgt := 142) dX8_readPart_106 (by decide) (fun c => ?_) (fun c => ?_)
  · replace K := K.1 c
    refine J_iconst (by decide) dX8_readPart_142 ?_
    exact J_ireturn rfl dX8_readPart_143 K
  · replace K := K.2 c
    refine J_iload_n rfl dX8_readPart_109 ?_
    refine J_iconst (by decide) dX8_readPart_110 ?_
    refine J_icmp_lt (tgt := 142) dX8_readPart_111 (by decide) (fun c => ?_) (fun c => ?_)
    · replace K := K.1 c
      refine J_iconst (by decide) dX8_readPart_142 ?_
      exact J_ireturn rfl dX8_readPart_143 K
    · replace K := K.2 c
      refine J_aload_n rfl dX8_readPart_114 ?_
      refine J_getI fl_RX8_250 rfl (Or.inl rfl) dX8_readPart_115 ?_
      refine J_if_ne (tgt := 142) dX8_readPart_118 (by decide) (fun c => ?_) (fun c => ?_)
      · replace K := K.2 c
        refine J_iconst (by decide) dX8_readPart_142 ?_
        exact J_ireturn rfl dX8_readPart_143 K
      · replace K := K.1 c
        refine J_aload_n rfl dX8_readPart_121 ?_
        refine J_getI fl_RX8_289 rfl (Or.inl rfl) dX8_readPart_122 ?_
        refine J_iconst (by decide) dX8_readPart_125 ?_
        refine J_isub K.1 dX8_readPart_126 ?_
        replace K := K.2
        refine J_istore_n (loc' := [some (vR (some 0)), some (vI y1), none, some (vI ((gi h 0 23) - 1))]) (by decide) rfl dX8_readPart_127 ?_
        refine J_aload_n rfl dX8_readPart_128 ?_
        refine J_getS (r := 12) fl_RX8_48 rfl (Or.inl rfl) rfl dX8_readPart_129 ?_
        refine J_iload_n rfl dX8_readPart_132 ?_
        refine J_aload_n rfl dX8_readPart_133 ?_
        refine J_lconst (x := 0) (by decide) (by decide) dX8_readPart_134 ?_
        refine J_ldc2 (n := 7) (by decide) (by decide) kc_RX8_343 dX8_readPart_135 ?_
        refine J_b0 (J_callV (b1 := 0) (ci := 8) (vs := [vL 0, vL 7]) (rest := [vI ((gi h 0 23) - 1), vR (some 12)]) (Or.inl rfl) ml_RX8_345 rfl (by decide) rfl rfl (Or.inl rfl) (Nat.le_of_ble_eq_true rfl) rfl dX8_readPart_138 (WM_mono K (fun r h1 K => ?_)))
        obtain ⟨u16, rfl, K⟩ := K
        show J _ _ _ _ _ _ _ [vI u16, vI ((gi h 0 23) - 1), vR (some 12)] _
        refine J_iastore (Or.inl rfl) K.1 dX8_readPart_141 ?_
        replace K := K.2
        replace K := K _ rfl
        refine J_iconst (by decide) dX8_readPart_142 ?_
        exact J_ireturn rfl dX8_readPart_143 K
set_option maxRecDepth 20000 in
set_option maxHeartbeats 2000000 in
theorem w_X8_readPart {d b : Nat} {Q : Option AV → AH → Prop} {h : AH}   (K : (gi h 0 16 = 3 ∧ gl h 0 17 = 91 → WM GM (d + 3) 0 mX8_openBracket [vR (some 0), vI 32] h (fun r h3 => r = none ∧ Q (some (vI 1)) h3)) ∧ (¬(gi h 0 16 = 3 ∧ gl h 0 17 = 91) → (gi h 0 20 = 0 → WM GM (d + 3) 0 mX8_partAt [vR (some 0)] h (fun r h1 => ∃ u1, r = some (vI u1) ∧ Lp_X8_readPart_36 d b Q u1 h1)) ∧ (¬(gi h 0 20 = 0) → WM GM (d + 3) 0 mX8_orderPartAt [vR (some 0)] h (fun r h2 => ∃ u2, r = some (vI u2) ∧ Lp_X8_readPart_36 d b Q u2 h2)))) : WM GM (d + 4) b mX8_readPart [vR (some 0)] h Q := by
  refine WM_introE (loc' := [some (vR (some 0)), none, none, none]) rfl (by decide) (Nat.le_of_ble_eq_true rfl) ?_
  refine J_aload_n rfl dX8_readPart_0 ?_
  refine J_bipush (by decide) (by decide) dX8_readPart_1 ?_
  refine J_b0 (J_callV (b1 := 0) (ci := 8) (vs := [vI 91]) (rest := []) (Or.inl rfl) ml_RX8_321 rfl (by decide) rfl rfl (Or.inl rfl) (Nat.le_of_ble_eq_true rfl) rfl dX8_readPart_3 (c_X8_isSign   ?_))
  show J _ _ _ _ _ _ _ [vI (b2i (gi h 0 16 = 3 ∧ gl h 0 17 = 91))] _
  refine J_if_eq (tgt := 17) dX8_readPart_6 (by decide) (fun c => ?_) (fun c => ?_)
  · replace K := K.2 (b2i_0.mp c)
    refine J_aload_n rfl dX8_readPart_17 ?_
    refine J_getI fl_RX8_327 rfl (Or.inl rfl) dX8_readPart_18 ?_
    refine J_if_eq (tgt := 31) dX8_readPart_21 (by decide) (fun c => ?_) (fun c => ?_)
    · replace K := K.1 c
      refine J_aload_n rfl dX8_readPart_31 ?_
      refine J_b0 (J_callV (b1 := 0) (ci := 8) (vs := []) (rest := []) (Or.inl rfl) ml_RX8_334 rfl (by decide) rfl rfl (Or.inl rfl) (Nat.le_of_ble_eq_true rfl) rfl dX8_readPart_32 (WM_mono K (fun r h1 K => ?_)))
      obtain ⟨u1, rfl, K⟩ := K
      show J _ _ _ _ _ _ _ [vI u1] _
      refine J_istore_n (loc' := [some (vR (some 0)), some (vI u1), none, none]) (by decide) rfl dX8_readPart_35 ?_
      exact J_forget (loc' := [some (vR (some 0)), some (vI u1), none, none]) (And.intro (Or.inr rfl) (And.intro (Or.inr rfl) (And.intro (Or.inl rfl) (And.intro (Or.inl rfl) True.intro)))) K
    · replace K := K.2 c
      refine J_aload_n rfl dX8_readPart_24 ?_
      refine J_b0 (J_callV (b1 := 0) (ci := 8) (vs := []) (rest := []) (Or.inl rfl) ml_RX8_330 rfl (by decide) rfl rfl (Or.inl rfl) (Nat.le_of_ble_eq_true rfl) rfl dX8_readPart_25 (WM_mono K (fun r h2 K => ?_)))
      obtain ⟨u2, rfl, K⟩ := K
      show J _ _ _ _ _ _ _ [vI u2] _
      refine J_goto (tgt := 35) dX8_readPart_28 (by decide) ?_
      refine J_istore_n (loc' := [some (vR (some 0)), some (vI u2), none, none]) (by decide) rfl dX8_readPart_35 ?_
      exact J_forget (loc' := [some (vR (some 0)), some (vI u2), none, none]) (And.intro (Or.inr rfl) (And.intro (Or.inr rfl) (And.intro (Or.inl rfl) (And.intro (Or.inl rfl) True.intro)))) K
  · replace K := K.1 (b2i_n0.mp c)
    refine J_aload_n rfl dX8_readPart_9 ?_
    refine J_bipush (by decide) (by decide) dX8_readPart_10 ?_
    refine J_b0 (J_callV (b1 := 0) (ci := 8) (vs := [vI 32]) (rest := []) (Or.inl rfl) ml_RX8_324 rfl (by decide) rfl rfl (Or.inl rfl) (Nat.le_of_ble_eq_true rfl) rfl dX8_readPart_12 (WM_mono K (fun r h3 K => ?_)))
    obtain ⟨rfl, K⟩ := K
    show J _ _ _ _ _ _ _ [] _
    refine J_iconst (by decide) dX8_readPart_15 ?_
    exact J_ireturn rfl dX8_readPart_16 K
set_option maxRecDepth 20000 in
set_option maxHeartbeats 2000000 in
theorem w_X8_readPlain {d b : Nat} {Q : Option AV → AH → Prop} {h : AH}   (K : (gi h 0 16 = 1 ∧ gl h 0 17 = 14836 → (0 ≤ gi h 0 29 ∧ gi h 0 29 < 400) ∧ ∀ h3, h3 = si (si (si h 13 (gi h 0 29) 28) 14 (gi h 0 29) 0) 0 29 (gi h 0 29 + 1) → WM GM (d + 4) 0 mX8_next [vR (some 0)] h3 (fun r h4 => r = none ∧ Q (some (vI 0)) h4)) ∧ (¬(gi h 0 16 = 1 ∧ gl h 0 17 = 14836) → (gi h 0 16 = 3 ∧ gl h 0 17 = 40 → WM GM (d + 4) 0 mX8_openBracket [vR (some 0), vI 31] h (fun r h2 => r = none ∧ Q (some (vI 0)) h2)) ∧ (¬(gi h 0 16 = 3 ∧ gl h 0 17 = 40) → WM GM (d + 4) 0 mX8_readPart [vR (some 0)] h (fun r h1 => ∃ u1, r = some (vI u1) ∧ Q (some (vI u1)) h1)))) : WM GM (d + 5) b mX8_readPlain [vR (some 0)] h Q := by
  refine WM_introE (loc' := [some (vR (some 0))]) rfl (by decide) (Nat.le_of_ble_eq_true rfl) ?_
  refine J_aload_n rfl dX8_readPlain_0 ?_
  refine J_ldc2 (n := 14836) (by decide) (by decide) kc_RX8_349 dX8_readPlain_1 ?_
  refine J_b0 (J_callV (b1 := 0) (ci := 8) (vs := [vL 14836]) (rest := []) (Or.inl rfl) ml_RX8_308 rfl (by decide) rfl rfl (Or.inl rfl) (Nat.le_of_ble_eq_true rfl) rfl dX8_readPlain_4 (c_X8_isWord   ?_))
  show J _ _ _ _ _ _ _ [vI (b2i (gi h 0 16 = 1 ∧ gl h 0 17 = 14836))] _
  refine J_if_eq (tgt := 23) dX8_readPlain_7 (by decide) (fun c => ?_) (fun c => ?_)
  · replace K := K.2 (b2i_0.mp c)
    refine J_aload_n rfl dX8_readPlain_23 ?_
    refine J_bipush (by decide) (by decide) dX8_readPlain_24 ?_
    refine J_b0 (J_callV (b1 := 0) (ci := 8) (vs := [vI 40]) (rest := []) (Or.inl rfl) ml_RX8_321 rfl (by decide) rfl rfl (Or.inl rfl) (Nat.le_of_ble_eq_true rfl) rfl dX8_readPlain_26 (c_X8_isSign   ?_))
    show J _ _ _ _ _ _ _ [vI (b2i (gi h 0 16 = 3 ∧ gl h 0 17 = 40))] _
    refine J_if_eq (tgt := 40) dX8_readPlain_29 (by decide) (fun c => ?_) (fun c => ?_)
    · replace K := K.2 (b2i_0.mp c)
      refine J_aload_n rfl dX8_readPlain_40 ?_
      refine J_b0 (J_callV (b1 := 0) (ci := 8) (vs := []) (rest := []) (Or.inl rfl) ml_RX8_351 rfl (by decide) rfl rfl (Or.inl rfl) (Nat.le_of_ble_eq_true rfl) rfl dX8_readPlain_41 (WM_mono K (fun r h1 K => ?_)))
      obtain ⟨u1, rfl, K⟩ := K
      show J _ _ _ _ _ _ _ [vI u1] _
      exact J_ireturn rfl dX8_readPlain_44 K
    · replace K := K.1 (b2i_n0.mp c)
      refine J_aload_n rfl dX8_readPlain_32 ?_
      refine J_bipush (by decide) (by decide) dX8_readPlain_33 ?_
      refine J_b0 (J_callV (b1 := 0) (ci := 8) (vs := [vI 31]) (rest := []) (Or.inl rfl) ml_RX8_324 rfl (by decide) rfl rfl (Or.inl rfl) (Nat.le_of_ble_eq_true rfl) rfl dX8_readPlain_35 (WM_mono K (fun r h2 K => ?_)))
      obtain ⟨rfl, K⟩ := K
      show J _ _ _ _ _ _ _ [] _
      refine J_iconst (by decide) dX8_readPlain_38 ?_
      exact J_ireturn rfl dX8_readPlain_39 K
  · replace K := K.1 (b2i_n0.mp c)
    refine J_aload_n rfl dX8_readPlain_10 ?_
    refine J_bipush (by decide) (by decide) dX8_readPlain_11 ?_
    refine J_iconst (by decide) dX8_readPlain_13 ?_
    refine J_b0 (J_callV (b1 := 0) (ci := 8) (vs := [vI 28, vI 0]) (rest := []) (Or.inl rfl) ml_RX8_315 rfl (by decide) rfl rfl (Or.inl rfl) (Nat.le_of_ble_eq_true rfl) rfl dX8_readPlain_14 (c_X8_push  K.1 ?_))
    replace K := K.2
    replace K := K _ rfl
    show J _ _ _ _ _ _ _ [] _
    refine J_aload_n rfl dX8_readPlain_17 ?_
    refine J_b0 (J_callV (b1 := 0) (ci := 8) (vs := []) (rest := []) (Or.inl rfl) ml_RX8_254 rfl (by decide) rfl rfl (Or.inl rfl) (Nat.le_of_ble_eq_true rfl) rfl dX8_readPlain_18 (WM_mono K (fun r h4 K => ?_)))
    obtain ⟨rfl, K⟩ := K
    show J _ _ _ _ _ _ _ [] _
    refine J_iconst (by decide) dX8_readPlain_21 ?_
    exact J_ireturn rfl dX8_readPlain_22 K
def Lp_X8_behindSum_72 (d b : Nat) (Q : Option AV → AH → Prop)  (y1 : Int) (y2 : Int) (h : AH) : Prop := J GM (d + 3) b mX8_behindSum Q 72 [some (vR (some 0)), some (vI y1), some (vI y2), none] [] h
def Lp_X8_behindSum_102 (d b : Nat) (Q : Option AV → AH → Prop)  (y1 : Int) (y3 : Int) (h : AH) : Prop := J GM (d + 3) b mX8_behindSum Q 102 [some (vR (some 0)), some (vI y1), none, some (vI y3)] [] h
def Lp_X8_behindSum_172 (d b : Nat) (Q : Option AV → AH → Prop)   (h : AH) : Prop := J GM (d + 3) b mX8_behindSum Q 172 [some (vR (some 0)), none, none, none] [] h
def Lp_X8_behindSum_203 (d b : Nat) (Q : Option AV → AH → Prop)  (y2 : Int) (h : AH) : Prop := J GM (d + 3) b mX8_behindSum Q 203 [some (vR (some 0)), none, some (vI y2), none] [] h
set_option maxRecDepth 20000 in
set_option maxHeartbeats 2000000 in
theorem l_X8_behindSum_72 {d b : Nat} {Q : Option AV → AH → Prop} {h : AH}  {y1 : Int} {y2 : Int}  (K : (y2 = (-1) → (0 ≤ gi h 0 29 ∧ gi h 0 29 ≤ 400) ∧ Lp_X8_behindSum_102 d b Q y1 (innF (gi h 13) (gi h 0 29).toNat) h) ∧ (¬(y2 = (-1)) → WM GM (d + 2) 0 mX8_settle [vR (some 0), vI (zbin y2)] h (fun r h1 => r = none ∧ (0 ≤ gi h1 0 29 ∧ gi h1 0 29 < 400) ∧ ∀ h2, h2 = si (si (si h1 13 (gi h1 0 29) y2) 14 (gi h1 0 29) 0) 0 29 (gi h1 0 29 + 1) → WM GM (d + 2) 0 mX8_next [vR (some 0)] h2 (fun r h3 => r = none ∧ Q (some (vI 1)) h3)))) : Lp_X8_behindSum_72 d b Q y1 y2 h := by
  unfold Lp_X8_behindSum_72
  refine J_iload_n rfl dX8_behindSum_72 ?_
  refine J_iconst (by decide) dX8_behindSum_73 ?_
  refine J_icmp_eq (tgt := 97) dX8_behindSum_74 (by decide) (fun c => ?_) (fun c => ?_)
  · replace K := K.1 c
    refine J_aload_n rfl dX8_behindSum_97 ?_
    refine J_b0 (J_callV (b1 := 0) (ci := 8) (vs := []) (rest := []) (Or.inl rfl) ml_RX8_357 rfl (by decide) rfl rfl (Or.inl rfl) (Nat.le_of_ble_eq_true rfl) rfl dX8_behindSum_98 (c_X8_inner  K.1 ?_))
    replace K := K.2
    show J _ _ _ _ _ _ _ [vI (innF (gi h 13) (gi h 0 29).toNat)] _
    refine J_istore_n (loc' := [some (vR (some 0)), some (vI y1), some (vI y2), some (vI (innF (gi h 13) (gi h 0 29).toNat))]) (by decide) rfl dX8_behindSum_101 ?_
    exact J_forget (loc' := [some (vR (some 0)), some (vI y1), none, some (vI (innF (gi h 13) (gi h 0 29).toNat))]) (And.intro (Or.inr rfl) (And.intro (Or.inr rfl) (And.intro (Or.inl rfl) (And.intro (Or.inr rfl) True.intro)))) K
  · replace K := K.2 c
    refine J_aload_n rfl dX8_behindSum_77 ?_
    refine J_iload_n rfl dX8_behindSum_78 ?_
    refine J_b0 (J_callS (b1 := 0) (vs := [vI y2]) (rest := [vR (some 0)]) (Or.inl rfl) ml_RX8_295 rfl (by decide) (Nat.le_of_ble_eq_true rfl) rfl dX8_behindSum_79 (c_X8_binds   ?_))
    show J _ _ _ _ _ _ _ [vI (zbin y2), vR (some 0)] _
    refine J_b0 (J_callV (b1 := 0) (ci := 8) (vs := [vI (zbin y2)]) (rest := []) (Or.inl rfl) ml_RX8_354 rfl (by decide) rfl rfl (Or.inl rfl) (Nat.le_of_ble_eq_true rfl) rfl dX8_behindSum_82 (WM_mono K (fun r h1 K => ?_)))
    obtain ⟨rfl, K⟩ := K
    show J _ _ _ _ _ _ _ [] _
    refine J_aload_n rfl dX8_behindSum_85 ?_
    refine J_iload_n rfl dX8_behindSum_86 ?_
    refine J_iconst (by decide) dX8_behindSum_87 ?_
    refine J_b0 (J_callV (b1 := 0) (ci := 8) (vs := [vI y2, vI 0]) (rest := []) (Or.inl rfl) ml_RX8_315 rfl (by decide) rfl rfl (Or.inl rfl) (Nat.le_of_ble_eq_true rfl) rfl dX8_behindSum_88 (c_X8_push  K.1 ?_))
    replace K := K.2
    replace K := K _ rfl
    show J _ _ _ _ _ _ _ [] _
    refine J_aload_n rfl dX8_behindSum_91 ?_
    refine J_b0 (J_callV (b1 := 0) (ci := 8) (vs := []) (rest := []) (Or.inl rfl) ml_RX8_254 rfl (by decide) rfl rfl (Or.inl rfl) (Nat.le_of_ble_eq_true rfl) rfl dX8_behindSum_92 (WM_mono K (fun r h3 K => ?_)))
    obtain ⟨rfl, K⟩ := K
    show J _ _ _ _ _ _ _ [] _
    refine J_iconst (by decide) dX8_behindSum_95 ?_
    exact J_ireturn rfl dX8_behindSum_96 K
set_option maxRecDepth 20000 in
set_option maxHeartbeats 2000000 in
theorem l_X8_behindSum_102 {d b : Nat} {Q : Option AV → AH → Prop} {h : AH}  {y1 : Int} {y3 : Int}  (K : (y3 = 32 → WM GM (d + 2) 0 mX8_must [vR (some 0), vI (b2i (gi h 0 16 = 3 ∧ gl h 0 17 = 93))] h (fun r h1 => r = none ∧ (gi h1 0 19 = 0 → WM GM (d + 2) 0 mX8_settle [vR (some 0), vI 5] h1 (fun r h2 => r = none ∧ R32 ((gi h2 0 29) - 1) ∧ ∀ h3, h3 = si h2 0 29 ((gi h2 0 29) - 1) → R32 ((gi h2 0 30) - 1) ∧ ∀ h4, h4 = si h3 0 30 ((gi h2 0 30) - 1) → Q (some (vI 3)) h4)) ∧ (¬(gi h1 0 19 = 0) → Q (some (vI 3)) h1))) ∧ (¬(y3 = 32) → (y3 = (-1) → (y1 = 0 → Q (some (vI 4)) h) ∧ (¬(y1 = 0) → (0 ≤ gi h 0 29 ∧ gi h 0 29 ≤ 400) ∧ (cmpF (gi h 13) (gi h 0 29).toNat = 0 → Lp_X8_behindSum_172 d b Q  h) ∧ (¬(cmpF (gi h 13) (gi h 0 29).toNat = 0) → Q (some (vI 2)) h))) ∧ (¬(y3 = (-1)) → (0 ≤ gi h 0 29 ∧ gi h 0 29 ≤ 400) ∧ (cmpF (gi h 13) (gi h 0 29).toNat = 0 → Lp_X8_behindSum_172 d b Q  h) ∧ (¬(cmpF (gi h 13) (gi h 0 29).toNat = 0) → Q (some (vI 2)) h)))) : Lp_X8_behindSum_102 d b Q y1 y3 h := by
  unfold Lp_X8_behindSum_102
  refine J_iload_n rfl dX8_behindSum_102 ?_
  refine J_bipush (by decide) (by decide) dX8_behindSum_103 ?_
  refine J_icmp_ne (tgt := 152) dX8_behindSum_105 (by decide) (fun c => ?_) (fun c => ?_)
  · replace K := K.2 c
    refine J_iload_n rfl dX8_behindSum_152 ?_
    refine J_iconst (by decide) dX8_behindSum_153 ?_
    refine J_icmp_ne (tgt := 163) dX8_behindSum_154 (by decide) (fun c => ?_) (fun c => ?_)
    · replace K := K.2 c
      refine J_aload_n rfl dX8_behindSum_163 ?_
      refine J_b0 (J_callV (b1 := 0) (ci := 8) (vs := []) (rest := []) (Or.inl rfl) ml_RX8_360 rfl (by decide) rfl rfl (Or.inl rfl) (Nat.le_of_ble_eq_true rfl) rfl dX8_behindSum_164 (c_X8_isCompared  K.1 ?_))
      replace K := K.2
      show J _ _ _ _ _ _ _ [vI (cmpF (gi h 13) (gi h 0 29).toNat)] _
      refine J_if_eq (tgt := 172) dX8_behindSum_167 (by decide) (fun c => ?_) (fun c => ?_)
      · replace K := K.1 c
        exact J_forget (loc' := [some (vR (some 0)), none, none, none]) (And.intro (Or.inr rfl) (And.intro (Or.inl rfl) (And.intro (Or.inl rfl) (And.intro (Or.inl rfl) True.intro)))) K
      · replace K := K.2 c
        refine J_iconst (by decide) dX8_behindSum_170 ?_
        exact J_ireturn rfl dX8_behindSum_171 K
    · replace K := K.1 c
      refine J_iload_n rfl dX8_behindSum_157 ?_
      refine J_if_ne (tgt := 163) dX8_behindSum_158 (by decide) (fun c => ?_) (fun c => ?_)
      · replace K := K.2 c
        refine J_aload_n rfl dX8_behindSum_163 ?_
        refine J_b0 (J_callV (b1 := 0) (ci := 8) (vs := []) (rest := []) (Or.inl rfl) ml_RX8_360 rfl (by decide) rfl rfl (Or.inl rfl) (Nat.le_of_ble_eq_true rfl) rfl dX8_behindSum_164 (c_X8_isCompared  K.1 ?_))
        replace K := K.2
        show J _ _ _ _ _ _ _ [vI (cmpF (gi h 13) (gi h 0 29).toNat)] _
        refine J_if_eq (tgt := 172) dX8_behindSum_167 (by decide) (fun c => ?_) (fun c => ?_)
        · replace K := K.1 c
          exact J_forget (loc' := [some (vR (some 0)), none, none, none]) (And.intro (Or.inr rfl) (And.intro (Or.inl rfl) (And.intro (Or.inl rfl) (And.intro (Or.inl rfl) True.intro)))) K
        · replace K := K.2 c
          refine J_iconst (by decide) dX8_behindSum_170 ?_
          exact J_ireturn rfl dX8_behindSum_171 K
      · replace K := K.1 c
        refine J_iconst (by decide) dX8_behindSum_161 ?_
        exact J_ireturn rfl dX8_behindSum_162 K
  · replace K := K.1 c
    refine J_aload_n rfl dX8_behindSum_108 ?_
    refine J_aload_n rfl dX8_behindSum_109 ?_
    refine J_bipush (by decide) (by decide) dX8_behindSum_110 ?_
    refine J_b0 (J_callV (b1 := 0) (ci := 8) (vs := [vI 93]) (rest := [vR (some 0)]) (Or.inl rfl) ml_RX8_321 rfl (by decide) rfl rfl (Or.inl rfl) (Nat.le_of_ble_eq_true rfl) rfl dX8_behindSum_112 (c_X8_isSign   ?_))
    show J _ _ _ _ _ _ _ [vI (b2i (gi h 0 16 = 3 ∧ gl h 0 17 = 93)), vR (some 0)] _
    refine J_b0 (J_callV (b1 := 0) (ci := 8) (vs := [vI (b2i (gi h 0 16 = 3 ∧ gl h 0 17 = 93))]) (rest := []) (Or.inl rfl) ml_RX8_285 rfl (by decide) rfl rfl (Or.inl rfl) (Nat.le_of_ble_eq_true rfl) rfl dX8_behindSum_115 (WM_mono K (fun r h1 K => ?_)))
    obtain ⟨rfl, K⟩ := K
    show J _ _ _ _ _ _ _ [] _
    refine J_aload_n rfl dX8_behindSum_118 ?_
    refine J_getI fl_RX8_250 rfl (Or.inl rfl) dX8_behindSum_119 ?_
    refine J_if_ne (tgt := 150) dX8_behindSum_122 (by decide) (fun c => ?_) (fun c => ?_)
    · replace K := K.2 c
      refine J_iconst (by decide) dX8_behindSum_150 ?_
      exact J_ireturn rfl dX8_behindSum_151 K
    · replace K := K.1 c
      refine J_aload_n rfl dX8_behindSum_125 ?_
      refine J_iconst (by decide) dX8_behindSum_126 ?_
      refine J_b0 (J_callV (b1 := 0) (ci := 8) (vs := [vI 5]) (rest := []) (Or.inl rfl) ml_RX8_354 rfl (by decide) rfl rfl (Or.inl rfl) (Nat.le_of_ble_eq_true rfl) rfl dX8_behindSum_127 (WM_mono K (fun r h2 K => ?_)))
      obtain ⟨rfl, K⟩ := K
      show J _ _ _ _ _ _ _ [] _
      refine J_aload_n rfl dX8_behindSum_130 ?_
      refine J_dup rfl dX8_behindSum_131 ?_
      refine J_getI fl_RX8_292 rfl (Or.inl rfl) dX8_behindSum_132 ?_
      refine J_iconst (by decide) dX8_behindSum_135 ?_
      refine J_isub K.1 dX8_behindSum_136 ?_
      replace K := K.2
      refine J_putI fl_RX8_292 rfl (Or.inl rfl) dX8_behindSum_137 ?_
      replace K := K _ rfl
      refine J_aload_n rfl dX8_behindSum_140 ?_
      refine J_dup rfl dX8_behindSum_141 ?_
      refine J_getIe fl_RX8_312 rfl (Or.inl rfl) (gi_nk (by decide)) dX8_behindSum_142 ?_
      refine J_iconst (by decide) dX8_behindSum_145 ?_
      refine J_isub K.1 dX8_behindSum_146 ?_
      replace K := K.2
      refine J_putI fl_RX8_312 rfl (Or.inl rfl) dX8_behindSum_147 ?_
      replace K := K _ rfl
      refine J_iconst (by decide) dX8_behindSum_150 ?_
      exact J_ireturn rfl dX8_behindSum_151 K
set_option maxRecDepth 20000 in
set_option maxHeartbeats 2000000 in
theorem l_X8_behindSum_172 {d b : Nat} {Q : Option AV → AH → Prop} {h : AH}    (K : (gi h 0 16 = 3 ∧ gl h 0 17 = 60 → Lp_X8_behindSum_203 d b Q 25 h) ∧ (¬(gi h 0 16 = 3 ∧ gl h 0 17 = 60) → (gi h 0 16 = 3 ∧ gl h 0 17 = 62 → Lp_X8_behindSum_203 d b Q 26 h) ∧ (¬(gi h 0 16 = 3 ∧ gl h 0 17 = 62) → Lp_X8_behindSum_203 d b Q 27 h))) : Lp_X8_behindSum_172 d b Q  h := by
  unfold Lp_X8_behindSum_172
  refine J_aload_n rfl dX8_behindSum_172 ?_
  refine J_bipush (by decide) (by decide) dX8_behindSum_173 ?_
  refine J_b0 (J_callV (b1 := 0) (ci := 8) (vs := [vI 60]) (rest := []) (Or.inl rfl) ml_RX8_321 rfl (by decide) rfl rfl (Or.inl rfl) (Nat.le_of_ble_eq_true rfl) rfl dX8_behindSum_175 (c_X8_isSign   ?_))
  show J _ _ _ _ _ _ _ [vI (b2i (gi h 0 16 = 3 ∧ gl h 0 17 = 60))] _
  refine J_if_eq (tgt := 186) dX8_behindSum_178 (by decide) (fun c => ?_) (fun c => ?_)
  · replace K := K.2 (b2i_0.mp c)
    refine J_aload_n rfl dX8_behindSum_186 ?_
    refine J_bipush (by decide) (by decide) dX8_behindSum_187 ?_
    refine J_b0 (J_callV (b1 := 0) (ci := 8) (vs := [vI 62]) (rest := []) (Or.inl rfl) ml_RX8_321 rfl (by decide) rfl rfl (Or.inl rfl) (Nat.le_of_ble_eq_true rfl) rfl dX8_behindSum_189 (c_X8_isSign   ?_))
    show J _ _ _ _ _ _ _ [vI (b2i (gi h 0 16 = 3 ∧ gl h 0 17 = 62))] _
    refine J_if_eq (tgt := 200) dX8_behindSum_192 (by decide) (fun c => ?_) (fun c => ?_)
    · replace K := K.2 (b2i_0.mp c)
      refine J_bipush (by decide) (by decide) dX8_behindSum_200 ?_
      refine J_istore_n (loc' := [some (vR (some 0)), none, some (vI 27), none]) (by decide) rfl dX8_behindSum_202 ?_
      exact J_forget (loc' := [some (vR (some 0)), none, some (vI 27), none]) (And.intro (Or.inr rfl) (And.intro (Or.inl rfl) (And.intro (Or.inr rfl) (And.intro (Or.inl rfl) True.intro)))) K
    · replace K := K.1 (b2i_n0.mp c)
      refine J_bipush (by decide) (by decide) dX8_behindSum_195 ?_
      refine J_goto (tgt := 202) dX8_behindSum_197 (by decide) ?_
      refine J_istore_n (loc' := [some (vR (some 0)), none, some (vI 26), none]) (by decide) rfl dX8_behindSum_202 ?_
      exact J_forget (loc' := [some (vR (some 0)), none, some (vI 26), none]) (And.intro (Or.inr rfl) (And.intro (Or.inl rfl) (And.intro (Or.inr rfl) (And.intro (Or.inl rfl) True.intro)))) K
  · replace K := K.1 (b2i_n0.mp c)
    refine J_bipush (by decide) (by decide) dX8_behindSum_181 ?_
    refine J_goto (tgt := 202) dX8_behindSum_183 (by decide) ?_
    refine J_istore_n (loc' := [some (vR (some 0)), none, some (vI 25), none]) (by decide) rfl dX8_behindSum_202 ?_
    exact J_forget (loc' := [some (vR (some 0)), none, some (vI 25), none]) (And.intro (Or.inr rfl) (And.intro (Or.inl rfl) (And.intro (Or.inr rfl) (And.intro (Or.inl rfl) True.intro)))) K
set_option maxRecDepth 20000 in
set_option maxHeartbeats 2000000 in
theorem l_X8_behindSum_203 {d b : Nat} {Q : Option AV → AH → Prop} {h : AH}  {y2 : Int}  (K : (y2 = 27 → (gi h 0 16 = 3 ∧ gl h 0 17 = 61 → WM GM (d + 2) 0 mX8_must [vR (some 0), vI 1] h (fun r h7 => r = none ∧ (gi h7 0 19 = 0 → WM GM (d + 2) 0 mX8_settle [vR (some 0), vI 5] h7 (fun r h8 => r = none ∧ (0 ≤ gi h8 0 29 ∧ gi h8 0 29 < 400) ∧ ∀ h9, h9 = si (si (si h8 13 (gi h8 0 29) y2) 14 (gi h8 0 29) 0) 0 29 (gi h8 0 29 + 1) → Q (some (vI 1)) h9)) ∧ (¬(gi h7 0 19 = 0) → Q (some (vI 1)) h7))) ∧ (¬(gi h 0 16 = 3 ∧ gl h 0 17 = 61) → WM GM (d + 2) 0 mX8_must [vR (some 0), vI 0] h (fun r h4 => r = none ∧ (gi h4 0 19 = 0 → WM GM (d + 2) 0 mX8_settle [vR (some 0), vI 5] h4 (fun r h5 => r = none ∧ (0 ≤ gi h5 0 29 ∧ gi h5 0 29 < 400) ∧ ∀ h6, h6 = si (si (si h5 13 (gi h5 0 29) y2) 14 (gi h5 0 29) 0) 0 29 (gi h5 0 29 + 1) → Q (some (vI 1)) h6)) ∧ (¬(gi h4 0 19 = 0) → Q (some (vI 1)) h4)))) ∧ (¬(y2 = 27) → WM GM (d + 2) 0 mX8_must [vR (some 0), vI 1] h (fun r h1 => r = none ∧ (gi h1 0 19 = 0 → WM GM (d + 2) 0 mX8_settle [vR (some 0), vI 5] h1 (fun r h2 => r = none ∧ (0 ≤ gi h2 0 29 ∧ gi h2 0 29 < 400) ∧ ∀ h3, h3 = si (si (si h2 13 (gi h2 0 29) y2) 14 (gi h2 0 29) 0) 0 29 (gi h2 0 29 + 1) → Q (some (vI 1)) h3)) ∧ (¬(gi h1 0 19 = 0) → Q (some (vI 1)) h1)))) : Lp_X8_behindSum_203 d b Q y2 h := by
  unfold Lp_X8_behindSum_203
  refine J_aload_n rfl dX8_behindSum_203 ?_
  refine J_iload_n rfl dX8_behindSum_204 ?_
  refine J_bipush (by decide) (by decide) dX8_behindSum_205 ?_
  refine J_icmp_ne (tgt := 219) dX8_behindSum_207 (by decide) (fun c => ?_) (fun c => ?_)
  · replace K := K.2 c
    refine J_iconst (by decide) dX8_behindSum_219 ?_
    refine J_goto (tgt := 224) dX8_behindSum_220 (by decide) ?_
    refine J_b0 (J_callV (b1 := 0) (ci := 8) (vs := [vI 1]) (rest := []) (Or.inl rfl) ml_RX8_285 rfl (by decide) rfl rfl (Or.inl rfl) (Nat.le_of_ble_eq_true rfl) rfl dX8_behindSum_224 (WM_mono K (fun r h1 K => ?_)))
    obtain ⟨rfl, K⟩ := K
    show J _ _ _ _ _ _ _ [] _
    refine J_aload_n rfl dX8_behindSum_227 ?_
    refine J_getI fl_RX8_250 rfl (Or.inl rfl) dX8_behindSum_228 ?_
    refine J_if_ne (tgt := 245) dX8_behindSum_231 (by decide) (fun c => ?_) (fun c => ?_)
    · replace K := K.2 c
      refine J_iconst (by decide) dX8_behindSum_245 ?_
      exact J_ireturn rfl dX8_behindSum_246 K
    · replace K := K.1 c
      refine J_aload_n rfl dX8_behindSum_234 ?_
      refine J_iconst (by decide) dX8_behindSum_235 ?_
      refine J_b0 (J_callV (b1 := 0) (ci := 8) (vs := [vI 5]) (rest := []) (Or.inl rfl) ml_RX8_354 rfl (by decide) rfl rfl (Or.inl rfl) (Nat.le_of_ble_eq_true rfl) rfl dX8_behindSum_236 (WM_mono K (fun r h2 K => ?_)))
      obtain ⟨rfl, K⟩ := K
      show J _ _ _ _ _ _ _ [] _
      refine J_aload_n rfl dX8_behindSum_239 ?_
      refine J_iload_n rfl dX8_behindSum_240 ?_
      refine J_iconst (by decide) dX8_behindSum_241 ?_
      refine J_b0 (J_callV (b1 := 0) (ci := 8) (vs := [vI y2, vI 0]) (rest := []) (Or.inl rfl) ml_RX8_315 rfl (by decide) rfl rfl (Or.inl rfl) (Nat.le_of_ble_eq_true rfl) rfl dX8_behindSum_242 (c_X8_push  K.1 ?_))
      replace K := K.2
      replace K := K _ rfl
      show J _ _ _ _ _ _ _ [] _
      refine J_iconst (by decide) dX8_behindSum_245 ?_
      exact J_ireturn rfl dX8_behindSum_246 K
  · replace K := K.1 c
    refine J_aload_n rfl dX8_behindSum_210 ?_
    refine J_bipush (by decide) (by decide) dX8_behindSum_211 ?_
    refine J_b0 (J_callV (b1 := 0) (ci := 8) (vs := [vI 61]) (rest := [vR (some 0)]) (Or.inl rfl) ml_RX8_321 rfl (by decide) rfl rfl (Or.inl rfl) (Nat.le_of_ble_eq_true rfl) rfl dX8_behindSum_213 (c_X8_isSign   ?_))
    show J _ _ _ _ _ _ _ [vI (b2i (gi h 0 16 = 3 ∧ gl h 0 17 = 61)), vR (some 0)] _
    refine J_if_eq (tgt := 223) dX8_behindSum_216 (by decide) (fun c => ?_) (fun c => ?_)
    · replace K := K.2 (b2i_0.mp c)
      refine J_iconst (by decide) dX8_behindSum_223 ?_
      refine J_b0 (J_callV (b1 := 0) (ci := 8) (vs := [vI 0]) (rest := []) (Or.inl rfl) ml_RX8_285 rfl (by decide) rfl rfl (Or.inl rfl) (Nat.le_of_ble_eq_true rfl) rfl dX8_behindSum_224 (WM_mono K (fun r h4 K => ?_)))
      obtain ⟨rfl, K⟩ := K
      show J _ _ _ _ _ _ _ [] _
      refine J_aload_n rfl dX8_behindSum_227 ?_
      refine J_getI fl_RX8_250 rfl (Or.inl rfl) dX8_behindSum_228 ?_
      refine J_if_ne (tgt := 245) dX8_behindSum_231 (by decide) (fun c => ?_) (fun c => ?_)
      · replace K := K.2 c
        refine J_iconst (by decide) dX8_behindSum_245 ?_
        exact J_ireturn rfl dX8_behindSum_246 K
      · replace K := K.1 c
        refine J_aload_n rfl dX8_behindSum_234 ?_
        refine J_iconst (by decide) dX8_behindSum_235 ?_
        refine J_b0 (J_callV (b1 := 0) (ci := 8) (vs := [vI 5]) (rest := []) (Or.inl rfl) ml_RX8_354 rfl (by decide) rfl rfl (Or.inl rfl) (Nat.le_of_ble_eq_true rfl) rfl dX8_behindSum_236 (WM_mono K (fun r h5 K => ?_)))
        obtain ⟨rfl, K⟩ := K
        show J _ _ _ _ _ _ _ [] _
        refine J_aload_n rfl dX8_behindSum_239 ?_
        refine J_iload_n rfl dX8_behindSum_240 ?_
        refine J_iconst (by decide) dX8_behindSum_241 ?_
        refine J_b0 (J_callV (b1 := 0) (ci := 8) (vs := [vI y2, vI 0]) (rest := []) (Or.inl rfl) ml_RX8_315 rfl (by decide) rfl rfl (Or.inl rfl) (Nat.le_of_ble_eq_true rfl) rfl dX8_behindSum_242 (c_X8_push  K.1 ?_))
        replace K := K.2
        replace K := K _ rfl
        show J _ _ _ _ _ _ _ [] _
        refine J_iconst (by decide) dX8_behindSum_245 ?_
        exact J_ireturn rfl dX8_behindSum_246 K
    · replace K := K.1 (b2i_n0.mp c)
      refine J_iconst (by decide) dX8_behindSum_219 ?_
      refine J_goto (tgt := 224) dX8_behindSum_220 (by decide) ?_
      refine J_b0 (J_callV (b1 := 0) (ci := 8) (vs := [vI 1]) (rest := []) (Or.inl rfl) ml_RX8_285 rfl (by decide) rfl rfl (Or.inl rfl) (Nat.le_of_ble_eq_true rfl) rfl dX8_behindSum_224 (WM_mono K (fun r h7 K => ?_)))
      obtain ⟨rfl, K⟩ := K
      show J _ _ _ _ _ _ _ [] _
      refine J_aload_n rfl dX8_behindSum_227 ?_
      refine J_getI fl_RX8_250 rfl (Or.inl rfl) dX8_behindSum_228 ?_
      refine J_if_ne (tgt := 245) dX8_behindSum_231 (by decide) (fun c => ?_) (fun c => ?_)
      · replace K := K.2 c
        refine J_iconst (by decide) dX8_behindSum_245 ?_
        exact J_ireturn rfl dX8_behindSum_246 K
      · replace K := K.1 c
        refine J_aload_n rfl dX8_behindSum_234 ?_
        refine J_iconst (by decide) dX8_behindSum_235 ?_
        refine J_b0 (J_callV (b1 := 0) (ci := 8) (vs := [vI 5]) (rest := []) (Or.inl rfl) ml_RX8_354 rfl (by decide) rfl rfl (Or.inl rfl) (Nat.le_of_ble_eq_true rfl) rfl dX8_behindSum_236 (WM_mono K (fun r h8 K => ?_)))
        obtain ⟨rfl, K⟩ := K
        show J _ _ _ _ _ _ _ [] _
        refine J_aload_n rfl dX8_behindSum_239 ?_
        refine J_iload_n rfl dX8_behindSum_240 ?_
        refine J_iconst (by decide) dX8_behindSum_241 ?_
        refine J_b0 (J_callV (b1 := 0) (ci := 8) (vs := [vI y2, vI 0]) (rest := []) (Or.inl rfl) ml_RX8_315 rfl (by decide) rfl rfl (Or.inl rfl) (Nat.le_of_ble_eq_true rfl) rfl dX8_behindSum_242 (c_X8_push  K.1 ?_))
        replace K := K.2
        replace K := K _ rfl
        show J _ _ _ _ _ _ _ [] _
        refine J_iconst (by decide) dX8_behindSum_245 ?_
        exact J_ireturn rfl dX8_behindSum_246 K
set_option maxRecDepth 20000 in
set_option maxHeartbeats 2000000 in
theorem w_X8_behindSum {d b : Nat} {Q : Option AV → AH → Prop} {h : AH} {x1 : Int}  (K : (gi h 0 16 = 3 ∧ gl h 0 17 = 43 → Lp_X8_behindSum_72 d b Q x1 20 h) ∧ (¬(gi h 0 16 = 3 ∧ gl h 0 17 = 43) → (gi h 0 16 = 3 ∧ gl h 0 17 = 45 → Lp_X8_behindSum_72 d b Q x1 21 h) ∧ (¬(gi h 0 16 = 3 ∧ gl h 0 17 = 45) → (gi h 0 16 = 3 ∧ gl h 0 17 = 42 → Lp_X8_behindSum_72 d b Q x1 22 h) ∧ (¬(gi h 0 16 = 3 ∧ gl h 0 17 = 42) → (gi h 0 16 = 3 ∧ gl h 0 17 = 47 → Lp_X8_behindSum_72 d b Q x1 23 h) ∧ (¬(gi h 0 16 = 3 ∧ gl h 0 17 = 47) → (gi h 0 16 = 3 ∧ gl h 0 17 = 37 → Lp_X8_behindSum_72 d b Q x1 24 h) ∧ (¬(gi h 0 16 = 3 ∧ gl h 0 17 = 37) → Lp_X8_behindSum_72 d b Q x1 (-1) h)))))) : WM GM (d + 3) b mX8_behindSum [vR (some 0), vI x1] h Q := by
  refine WM_introE (loc' := [some (vR (some 0)), some (vI x1), none, none]) rfl (by decide) (Nat.le_of_ble_eq_true rfl) ?_
  refine J_aload_n rfl dX8_behindSum_0 ?_
  refine J_bipush (by decide) (by decide) dX8_behindSum_1 ?_
  refine J_b0 (J_callV (b1 := 0) (ci := 8) (vs := [vI 43]) (rest := []) (Or.inl rfl) ml_RX8_321 rfl (by decide) rfl rfl (Or.inl rfl) (Nat.le_of_ble_eq_true rfl) rfl dX8_behindSum_3 (c_X8_isSign   ?_))
  show J _ _ _ _ _ _ _ [vI (b2i (gi h 0 16 = 3 ∧ gl h 0 17 = 43))] _
  refine J_if_eq (tgt := 14) dX8_behindSum_6 (by decide) (fun c => ?_) (fun c => ?_)
  · replace K := K.2 (b2i_0.mp c)
    refine J_aload_n rfl dX8_behindSum_14 ?_
    refine J_bipush (by decide) (by decide) dX8_behindSum_15 ?_
    refine J_b0 (J_callV (b1 := 0) (ci := 8) (vs := [vI 45]) (rest := []) (Or.inl rfl) ml_RX8_321 rfl (by decide) rfl rfl (Or.inl rfl) (Nat.le_of_ble_eq_true rfl) rfl dX8_behindSum_17 (c_X8_isSign   ?_))
    show J _ _ _ _ _ _ _ [vI (b2i (gi h 0 16 = 3 ∧ gl h 0 17 = 45))] _
    refine J_if_eq (tgt := 28) dX8_behindSum_20 (by decide) (fun c => ?_) (fun c => ?_)
    · replace K := K.2 (b2i_0.mp c)
      refine J_aload_n rfl dX8_behindSum_28 ?_
      refine J_bipush (by decide) (by decide) dX8_behindSum_29 ?_
      refine J_b0 (J_callV (b1 := 0) (ci := 8) (vs := [vI 42]) (rest := []) (Or.inl rfl) ml_RX8_321 rfl (by decide) rfl rfl (Or.inl rfl) (Nat.le_of_ble_eq_true rfl) rfl dX8_behindSum_31 (c_X8_isSign   ?_))
      show J _ _ _ _ _ _ _ [vI (b2i (gi h 0 16 = 3 ∧ gl h 0 17 = 42))] _
      refine J_if_eq (tgt := 42) dX8_behindSum_34 (by decide) (fun c => ?_) (fun c => ?_)
      · replace K := K.2 (b2i_0.mp c)
        refine J_aload_n rfl dX8_behindSum_42 ?_
        refine J_bipush (by decide) (by decide) dX8_behindSum_43 ?_
        refine J_b0 (J_callV (b1 := 0) (ci := 8) (vs := [vI 47]) (rest := []) (Or.inl rfl) ml_RX8_321 rfl (by decide) rfl rfl (Or.inl rfl) (Nat.le_of_ble_eq_true rfl) rfl dX8_behindSum_45 (c_X8_isSign   ?_))
        show J _ _ _ _ _ _ _ [vI (b2i (gi h 0 16 = 3 ∧ gl h 0 17 = 47))] _
        refine J_if_eq (tgt := 56) dX8_behindSum_48 (by decide) (fun c => ?_) (fun c => ?_)
        · replace K := K.2 (b2i_0.mp c)
          refine J_aload_n rfl dX8_behindSum_56 ?_
          refine J_bipush (by decide) (by decide) dX8_behindSum_57 ?_
          refine J_b0 (J_callV (b1 := 0) (ci := 8) (vs := [vI 37]) (rest := []) (Or.inl rfl) ml_RX8_321 rfl (by decide) rfl rfl (Or.inl rfl) (Nat.le_of_ble_eq_true rfl) rfl dX8_behindSum_59 (c_X8_isSign   ?_))
          show J _ _ _ _ _ _ _ [vI (b2i (gi h 0 16 = 3 ∧ gl h 0 17 = 37))] _
          refine J_if_eq (tgt := 70) dX8_behindSum_62 (by decide) (fun c => ?_) (fun c => ?_)
          · replace K := K.2 (b2i_0.mp c)
            refine J_iconst (by decide) dX8_behindSum_70 ?_
            refine J_istore_n (loc' := [some (vR (some 0)), some (vI x1), some (vI (-1)), none]) (by decide) rfl dX8_behindSum_71 ?_
            exact J_forget (loc' := [some (vR (some 0)), some (vI x1), some (vI (-1)), none]) (And.intro (Or.inr rfl) (And.intro (Or.inr rfl) (And.intro (Or.inr rfl) (And.intro (Or.inl rfl) True.intro)))) K
          · replace K := K.1 (b2i_n0.mp c)
            refine J_bipush (by decide) (by decide) dX8_behindSum_65 ?_
            refine J_goto (tgt := 71) dX8_behindSum_67 (by decide) ?_
            refine J_istore_n (loc' := [some (vR (some 0)), some (vI x1), some (vI 24), none]) (by decide) rfl dX8_behindSum_71 ?_
            exact J_forget (loc' := [some (vR (some 0)), some (vI x1), some (vI 24), none]) (And.intro (Or.inr rfl) (And.intro (Or.inr rfl) (And.intro (Or.inr rfl) (And.intro (Or.inl rfl) True.intro)))) K
        · replace K := K.1 (b2i_n0.mp c)
          refine J_bipush (by decide) (by decide) dX8_behindSum_51 ?_
          refine J_goto (tgt := 71) dX8_behindSum_53 (by decide) ?_
          refine J_istore_n (loc' := [some (vR (some 0)), some (vI x1), some (vI 23), none]) (by decide) rfl dX8_behindSum_71 ?_
          exact J_forget (loc' := [some (vR (some 0)), some (vI x1), some (vI 23), none]) (And.intro (Or.inr rfl) (And.intro (Or.inr rfl) (And.intro (Or.inr rfl) (And.intro (Or.inl rfl) True.intro)))) K
      · replace K := K.1 (b2i_n0.mp c)
        refine J_bipush (by decide) (by decide) dX8_behindSum_37 ?_
        refine J_goto (tgt := 71) dX8_behindSum_39 (by decide) ?_
        refine J_istore_n (loc' := [some (vR (some 0)), some (vI x1), some (vI 22), none]) (by decide) rfl dX8_behindSum_71 ?_
        exact J_forget (loc' := [some (vR (some 0)), some (vI x1), some (vI 22), none]) (And.intro (Or.inr rfl) (And.intro (Or.inr rfl) (And.intro (Or.inr rfl) (And.intro (Or.inl rfl) True.intro)))) K
    · replace K := K.1 (b2i_n0.mp c)
      refine J_bipush (by decide) (by decide) dX8_behindSum_23 ?_
      refine J_goto (tgt := 71) dX8_behindSum_25 (by decide) ?_
      refine J_istore_n (loc' := [some (vR (some 0)), some (vI x1), some (vI 21), none]) (by decide) rfl dX8_behindSum_71 ?_
      exact J_forget (loc' := [some (vR (some 0)), some (vI x1), some (vI 21), none]) (And.intro (Or.inr rfl) (And.intro (Or.inr rfl) (And.intro (Or.inr rfl) (And.intro (Or.inl rfl) True.intro)))) K
  · replace K := K.1 (b2i_n0.mp c)
    refine J_bipush (by decide) (by decide) dX8_behindSum_9 ?_
    refine J_goto (tgt := 71) dX8_behindSum_11 (by decide) ?_
    refine J_istore_n (loc' := [some (vR (some 0)), some (vI x1), some (vI 20), none]) (by decide) rfl dX8_behindSum_71 ?_
    exact J_forget (loc' := [some (vR (some 0)), some (vI x1), some (vI 20), none]) (And.intro (Or.inr rfl) (And.intro (Or.inr rfl) (And.intro (Or.inr rfl) (And.intro (Or.inl rfl) True.intro)))) K
def Lp_X8_behindTest_8 (d b : Nat) (Q : Option AV → AH → Prop)  (y1 : Int) (h : AH) : Prop := J GM (d + 3) b mX8_behindTest Q 8 [some (vR (some 0)), some (vI y1)] [] h
def Lp_X8_behindTest_22 (d b : Nat) (Q : Option AV → AH → Prop)  (y1 : Int) (h : AH) : Prop := J GM (d + 3) b mX8_behindTest Q 22 [some (vR (some 0)), some (vI y1)] [] h
set_option maxRecDepth 20000 in
set_option maxHeartbeats 2000000 in
theorem l_X8_behindTest_8 {d b : Nat} {Q : Option AV → AH → Prop} {h : AH}  {y1 : Int}  (K : (y1 = 0 → (gi h 0 16 = 1 ∧ gl h 0 17 = 498 → Lp_X8_behindTest_22 d b Q y1 h) ∧ (¬(gi h 0 16 = 1 ∧ gl h 0 17 = 498) → (0 ≤ gi h 0 29 ∧ gi h 0 29 ≤ 400) ∧ (innF (gi h 13) (gi h 0 29).toNat = (-1) → Q (some (vI 4)) h) ∧ (¬(innF (gi h 13) (gi h 0 29).toNat = (-1)) → WM GM (d + 2) 0 mX8_must [vR (some 0), vI (b2i (gi h 0 16 = 3 ∧ gl h 0 17 = 41))] h (fun r h1 => r = none ∧ (gi h1 0 19 = 0 → WM GM (d + 2) 0 mX8_settle [vR (some 0), vI 1] h1 (fun r h2 => r = none ∧ R32 ((gi h2 0 29) - 1) ∧ ∀ h3, h3 = si h2 0 29 ((gi h2 0 29) - 1) → R32 ((gi h2 0 30) - 1) ∧ ∀ h4, h4 = si h3 0 30 ((gi h2 0 30) - 1) → Q (some (vI 2)) h4)) ∧ (¬(gi h1 0 19 = 0) → Q (some (vI 2)) h1))))) ∧ (¬(y1 = 0) → Lp_X8_behindTest_22 d b Q y1 h)) : Lp_X8_behindTest_8 d b Q y1 h := by
  unfold Lp_X8_behindTest_8
  refine J_iload_n rfl dX8_behindTest_8 ?_
  refine J_if_ne (tgt := 22) dX8_behindTest_9 (by decide) (fun c => ?_) (fun c => ?_)
  · replace K := K.2 c
    exact J_forget (loc' := [some (vR (some 0)), some (vI y1)]) (And.intro (Or.inr rfl) (And.intro (Or.inr rfl) True.intro)) K
  · replace K := K.1 c
    refine J_aload_n rfl dX8_behindTest_12 ?_
    refine J_ldc2 (n := 498) (by decide) (by decide) kc_RX8_366 dX8_behindTest_13 ?_
    refine J_b0 (J_callV (b1 := 0) (ci := 8) (vs := [vL 498]) (rest := []) (Or.inl rfl) ml_RX8_308 rfl (by decide) rfl rfl (Or.inl rfl) (Nat.le_of_ble_eq_true rfl) rfl dX8_behindTest_16 (c_X8_isWord   ?_))
    show J _ _ _ _ _ _ _ [vI (b2i (gi h 0 16 = 1 ∧ gl h 0 17 = 498))] _
    refine J_if_eq (tgt := 76) dX8_behindTest_19 (by decide) (fun c => ?_) (fun c => ?_)
    · replace K := K.2 (b2i_0.mp c)
      refine J_aload_n rfl dX8_behindTest_76 ?_
      refine J_b0 (J_callV (b1 := 0) (ci := 8) (vs := []) (rest := []) (Or.inl rfl) ml_RX8_357 rfl (by decide) rfl rfl (Or.inl rfl) (Nat.le_of_ble_eq_true rfl) rfl dX8_behindTest_77 (c_X8_inner  K.1 ?_))
      replace K := K.2
      show J _ _ _ _ _ _ _ [vI (innF (gi h 13) (gi h 0 29).toNat)] _
      refine J_iconst (by decide) dX8_behindTest_80 ?_
      refine J_icmp_ne (tgt := 86) dX8_behindTest_81 (by decide) (fun c => ?_) (fun c => ?_)
      · replace K := K.2 c
        refine J_aload_n rfl dX8_behindTest_86 ?_
        refine J_aload_n rfl dX8_behindTest_87 ?_
        refine J_bipush (by decide) (by decide) dX8_behindTest_88 ?_
        refine J_b0 (J_callV (b1 := 0) (ci := 8) (vs := [vI 41]) (rest := [vR (some 0)]) (Or.inl rfl) ml_RX8_321 rfl (by decide) rfl rfl (Or.inl rfl) (Nat.le_of_ble_eq_true rfl) rfl dX8_behindTest_90 (c_X8_isSign   ?_))
        show J _ _ _ _ _ _ _ [vI (b2i (gi h 0 16 = 3 ∧ gl h 0 17 = 41)), vR (some 0)] _
        refine J_b0 (J_callV (b1 := 0) (ci := 8) (vs := [vI (b2i (gi h 0 16 = 3 ∧ gl h 0 17 = 41))]) (rest := []) (Or.inl rfl) ml_RX8_285 rfl (by decide) rfl rfl (Or.inl rfl) (Nat.le_of_ble_eq_true rfl) rfl dX8_behindTest_93 (WM_mono K (fun r h1 K => ?_)))
        obtain ⟨rfl, K⟩ := K
        show J _ _ _ _ _ _ _ [] _
        refine J_aload_n rfl dX8_behindTest_96 ?_
        refine J_getI fl_RX8_250 rfl (Or.inl rfl) dX8_behindTest_97 ?_
        refine J_if_ne (tgt := 128) dX8_behindTest_100 (by decide) (fun c => ?_) (fun c => ?_)
        · replace K := K.2 c
          refine J_iconst (by decide) dX8_behindTest_128 ?_
          exact J_ireturn rfl dX8_behindTest_129 K
        · replace K := K.1 c
          refine J_aload_n rfl dX8_behindTest_103 ?_
          refine J_iconst (by decide) dX8_behindTest_104 ?_
          refine J_b0 (J_callV (b1 := 0) (ci := 8) (vs := [vI 1]) (rest := []) (Or.inl rfl) ml_RX8_354 rfl (by decide) rfl rfl (Or.inl rfl) (Nat.le_of_ble_eq_true rfl) rfl dX8_behindTest_105 (WM_mono K (fun r h2 K => ?_)))
          obtain ⟨rfl, K⟩ := K
          show J _ _ _ _ _ _ _ [] _
          refine J_aload_n rfl dX8_behindTest_108 ?_
          refine J_dup rfl dX8_behindTest_109 ?_
          refine J_getI fl_RX8_292 rfl (Or.inl rfl) dX8_behindTest_110 ?_
          refine J_iconst (by decide) dX8_behindTest_113 ?_
          refine J_isub K.1 dX8_behindTest_114 ?_
          replace K := K.2
          refine J_putI fl_RX8_292 rfl (Or.inl rfl) dX8_behindTest_115 ?_
          replace K := K _ rfl
          refine J_aload_n rfl dX8_behindTest_118 ?_
          refine J_dup rfl dX8_behindTest_119 ?_
          refine J_getIe fl_RX8_312 rfl (Or.inl rfl) (gi_nk (by decide)) dX8_behindTest_120 ?_
          refine J_iconst (by decide) dX8_behindTest_123 ?_
          refine J_isub K.1 dX8_behindTest_124 ?_
          replace K := K.2
          refine J_putI fl_RX8_312 rfl (Or.inl rfl) dX8_behindTest_125 ?_
          replace K := K _ rfl
          refine J_iconst (by decide) dX8_behindTest_128 ?_
          exact J_ireturn rfl dX8_behindTest_129 K
      · replace K := K.1 c
        refine J_iconst (by decide) dX8_behindTest_84 ?_
        exact J_ireturn rfl dX8_behindTest_85 K
    · replace K := K.1 (b2i_n0.mp c)
      exact J_forget (loc' := [some (vR (some 0)), some (vI y1)]) (And.intro (Or.inr rfl) (And.intro (Or.inr rfl) True.intro)) K
set_option maxRecDepth 20000 in
set_option maxHeartbeats 2000000 in
theorem l_X8_behindTest_22 {d b : Nat} {Q : Option AV → AH → Prop} {h : AH}  {y1 : Int}  (K : (y1 = 0 → WM GM (d + 2) 0 mX8_settle [vR (some 0), vI 1] h (fun r h1 => r = none ∧ (y1 = 0 → (0 ≤ gi h1 0 29 ∧ gi h1 0 29 < 400) ∧ ∀ h2, h2 = si (si (si h1 13 (gi h1 0 29) 30) 14 (gi h1 0 29) (gi h1 0 23)) 0 29 (gi h1 0 29 + 1) → (y1 = 0 → (0 ≤ gi h2 0 23 ∧ gi h2 0 23 < 400) ∧ ∀ h3, h3 = si (si (si h2 11 (gi h2 0 23) 30) 12 (gi h2 0 23) 0) 0 23 (gi h2 0 23 + 1) → WM GM (d + 2) 0 mX8_next [vR (some 0)] h3 (fun r h4 => r = none ∧ Q (some (vI 0)) h4)) ∧ (¬(y1 = 0) → (0 ≤ gi h2 0 23 ∧ gi h2 0 23 < 400) ∧ ∀ h5, h5 = si (si (si h2 11 (gi h2 0 23) 29) 12 (gi h2 0 23) 0) 0 23 (gi h2 0 23 + 1) → WM GM (d + 2) 0 mX8_next [vR (some 0)] h5 (fun r h6 => r = none ∧ Q (some (vI 0)) h6))) ∧ (¬(y1 = 0) → (0 ≤ gi h1 0 29 ∧ gi h1 0 29 < 400) ∧ ∀ h7, h7 = si (si (si h1 13 (gi h1 0 29) 29) 14 (gi h1 0 29) (gi h1 0 23)) 0 29 (gi h1 0 29 + 1) → (y1 = 0 → (0 ≤ gi h7 0 23 ∧ gi h7 0 23 < 400) ∧ ∀ h8, h8 = si (si (si h7 11 (gi h7 0 23) 30) 12 (gi h7 0 23) 0) 0 23 (gi h7 0 23 + 1) → WM GM (d + 2) 0 mX8_next [vR (some 0)] h8 (fun r h9 => r = none ∧ Q (some (vI 0)) h9)) ∧ (¬(y1 = 0) → (0 ≤ gi h7 0 23 ∧ gi h7 0 23 < 400) ∧ ∀ h10, h10 = si (si (si h7 11 (gi h7 0 23) 29) 12 (gi h7 0 23) 0) 0 23 (gi h7 0 23 + 1) → WM GM (d + 2) 0 mX8_next [vR (some 0)] h10 (fun r h11 => r = none ∧ Q (some (vI 0)) h11))))) ∧ (¬(y1 = 0) → WM GM (d + 2) 0 mX8_settle [vR (some 0), vI 2] h (fun r h12 => r = none ∧ (y1 = 0 → (0 ≤ gi h12 0 29 ∧ gi h12 0 29 < 400) ∧ ∀ h13, h13 = si (si (si h12 13 (gi h12 0 29) 30) 14 (gi h12 0 29) (gi h12 0 23)) 0 29 (gi h12 0 29 + 1) → (y1 = 0 → (0 ≤ gi h13 0 23 ∧ gi h13 0 23 < 400) ∧ ∀ h14, h14 = si (si (si h13 11 (gi h13 0 23) 30) 12 (gi h13 0 23) 0) 0 23 (gi h13 0 23 + 1) → WM GM (d + 2) 0 mX8_next [vR (some 0)] h14 (fun r h15 => r = none ∧ Q (some (vI 0)) h15)) ∧ (¬(y1 = 0) → (0 ≤ gi h13 0 23 ∧ gi h13 0 23 < 400) ∧ ∀ h16, h16 = si (si (si h13 11 (gi h13 0 23) 29) 12 (gi h13 0 23) 0) 0 23 (gi h13 0 23 + 1) → WM GM (d + 2) 0 mX8_next [vR (some 0)] h16 (fun r h17 => r = none ∧ Q (some (vI 0)) h17))) ∧ (¬(y1 = 0) → (0 ≤ gi h12 0 29 ∧ gi h12 0 29 < 400) ∧ ∀ h18, h18 = si (si (si h12 13 (gi h12 0 29) 29) 14 (gi h12 0 29) (gi h12 0 23)) 0 29 (gi h12 0 29 + 1) → (y1 = 0 → (0 ≤ gi h18 0 23 ∧ gi h18 0 23 < 400) ∧ ∀ h19, h19 = si (si (si h18 11 (gi h18 0 23) 30) 12 (gi h18 0 23) 0) 0 23 (gi h18 0 23 + 1) → WM GM (d + 2) 0 mX8_next [vR (some 0)] h19 (fun r h20 => r = none ∧ Q (some (vI 0)) h20)) ∧ (¬(y1 = 0) → (0 ≤ gi h18 0 23 ∧ gi h18 0 23 < 400) ∧ ∀ h21, h21 = si (si (si h18 11 (gi h18 0 23) 29) 12 (gi h18 0 23) 0) 0 23 (gi h18 0 23 + 1) → WM GM (d + 2) 0 mX8_next [vR (some 0)] h21 (fun r h22 => r = none ∧ Q (some (vI 0)) h22)))))) : Lp_X8_behindTest_22 d b Q y1 h := by
  unfold Lp_X8_behindTest_22
  refine J_aload_n rfl dX8_behindTest_22 ?_
  refine J_iload_n rfl dX8_behindTest_23 ?_
  refine J_if_eq (tgt := 31) dX8_behindTest_24 (by decide) (fun c => ?_) (fun c => ?_)
  · replace K := K.1 c
    refine J_iconst (by decide) dX8_behindTest_31 ?_
    refine J_b0 (J_callV (b1 := 0) (ci := 8) (vs := [vI 1]) (rest := []) (Or.inl rfl) ml_RX8_354 rfl (by decide) rfl rfl (Or.inl rfl) (Nat.le_of_ble_eq_true rfl) rfl dX8_behindTest_32 (WM_mono K (fun r h1 K => ?_)))
    obtain ⟨rfl, K⟩ := K
    show J _ _ _ _ _ _ _ [] _
    refine J_aload_n rfl dX8_behindTest_35 ?_
    refine J_iload_n rfl dX8_behindTest_36 ?_
    refine J_if_eq (tgt := 45) dX8_behindTest_37 (by decide) (fun c => ?_) (fun c => ?_)
    · replace K := K.1 c
      refine J_bipush (by decide) (by decide) dX8_behindTest_45 ?_
      refine J_aload_n rfl dX8_behindTest_47 ?_
      refine J_getI fl_RX8_289 rfl (Or.inl rfl) dX8_behindTest_48 ?_
      refine J_b0 (J_callV (b1 := 0) (ci := 8) (vs := [vI 30, vI _]) (rest := []) (Or.inl rfl) ml_RX8_315 rfl (by decide) rfl rfl (Or.inl rfl) (Nat.le_of_ble_eq_true rfl) rfl dX8_behindTest_51 (c_X8_push  K.1 ?_))
      replace K := K.2
      replace K := K _ rfl
      show J _ _ _ _ _ _ _ [] _
      refine J_aload_n rfl dX8_behindTest_54 ?_
      refine J_iload_n rfl dX8_behindTest_55 ?_
      refine J_if_eq (tgt := 64) dX8_behindTest_56 (by decide) (fun c => ?_) (fun c => ?_)
      · replace K := K.1 c
        refine J_bipush (by decide) (by decide) dX8_behindTest_64 ?_
        refine J_iconst (by decide) dX8_behindTest_66 ?_
        refine J_b0 (J_callV (b1 := 0) (ci := 8) (vs := [vI 30, vI 0]) (rest := []) (Or.inl rfl) ml_RX8_298 rfl (by decide) rfl rfl (Or.inl rfl) (Nat.le_of_ble_eq_true rfl) rfl dX8_behindTest_67 (c_X8_emit  K.1 ?_))
        replace K := K.2
        replace K := K _ rfl
        show J _ _ _ _ _ _ _ [] _
        refine J_aload_n rfl dX8_behindTest_70 ?_
        refine J_b0 (J_callV (b1 := 0) (ci := 8) (vs := []) (rest := []) (Or.inl rfl) ml_RX8_254 rfl (by decide) rfl rfl (Or.inl rfl) (Nat.le_of_ble_eq_true rfl) rfl dX8_behindTest_71 (WM_mono K (fun r h4 K => ?_)))
        obtain ⟨rfl, K⟩ := K
        show J _ _ _ _ _ _ _ [] _
        refine J_iconst (by decide) dX8_behindTest_74 ?_
        exact J_ireturn rfl dX8_behindTest_75 K
      · replace K := K.2 c
        refine J_bipush (by decide) (by decide) dX8_behindTest_59 ?_
        refine J_goto (tgt := 66) dX8_behindTest_61 (by decide) ?_
        refine J_iconst (by decide) dX8_behindTest_66 ?_
        refine J_b0 (J_callV (b1 := 0) (ci := 8) (vs := [vI 29, vI 0]) (rest := []) (Or.inl rfl) ml_RX8_298 rfl (by decide) rfl rfl (Or.inl rfl) (Nat.le_of_ble_eq_true rfl) rfl dX8_behindTest_67 (c_X8_emit  K.1 ?_))
        replace K := K.2
        replace K := K _ rfl
        show J _ _ _ _ _ _ _ [] _
        refine J_aload_n rfl dX8_behindTest_70 ?_
        refine J_b0 (J_callV (b1 := 0) (ci := 8) (vs := []) (rest := []) (Or.inl rfl) ml_RX8_254 rfl (by decide) rfl rfl (Or.inl rfl) (Nat.le_of_ble_eq_true rfl) rfl dX8_behindTest_71 (WM_mono K (fun r h6 K => ?_)))
        obtain ⟨rfl, K⟩ := K
        show J _ _ _ _ _ _ _ [] _
        refine J_iconst (by decide) dX8_behindTest_74 ?_
        exact J_ireturn rfl dX8_behindTest_75 K
    · replace K := K.2 c
      refine J_bipush (by decide) (by decide) dX8_behindTest_40 ?_
      refine J_goto (tgt := 47) dX8_behindTest_42 (by decide) ?_
      refine J_aload_n rfl dX8_behindTest_47 ?_
      refine J_getI fl_RX8_289 rfl (Or.inl rfl) dX8_behindTest_48 ?_
      refine J_b0 (J_callV (b1 := 0) (ci := 8) (vs := [vI 29, vI _]) (rest := []) (Or.inl rfl) ml_RX8_315 rfl (by decide) rfl rfl (Or.inl rfl) (Nat.le_of_ble_eq_true rfl) rfl dX8_behindTest_51 (c_X8_push  K.1 ?_))
      replace K := K.2
      replace K := K _ rfl
      show J _ _ _ _ _ _ _ [] _
      refine J_aload_n rfl dX8_behindTest_54 ?_
      refine J_iload_n rfl dX8_behindTest_55 ?_
      refine J_if_eq (tgt := 64) dX8_behindTest_56 (by decide) (fun c => ?_) (fun c => ?_)
      · replace K := K.1 c
        refine J_bipush (by decide) (by decide) dX8_behindTest_64 ?_
        refine J_iconst (by decide) dX8_behindTest_66 ?_
        refine J_b0 (J_callV (b1 := 0) (ci := 8) (vs := [vI 30, vI 0]) (rest := []) (Or.inl rfl) ml_RX8_298 rfl (by decide) rfl rfl (Or.inl rfl) (Nat.le_of_ble_eq_true rfl) rfl dX8_behindTest_67 (c_X8_emit  K.1 ?_))
        replace K := K.2
        replace K := K _ rfl
        show J _ _ _ _ _ _ _ [] _
        refine J_aload_n rfl dX8_behindTest_70 ?_
        refine J_b0 (J_callV (b1 := 0) (ci := 8) (vs := []) (rest := []) (Or.inl rfl) ml_RX8_254 rfl (by decide) rfl rfl (Or.inl rfl) (Nat.le_of_ble_eq_true rfl) rfl dX8_behindTest_71 (WM_mono K (fun r h9 K => ?_)))
        obtain ⟨rfl, K⟩ := K
        show J _ _ _ _ _ _ _ [] _
        refine J_iconst (by decide) dX8_behindTest_74 ?_
        exact J_ireturn rfl dX8_behindTest_75 K
      · replace K := K.2 c
        refine J_bipush (by decide) (by decide) dX8_behindTest_59 ?_
        refine J_goto (tgt := 66) dX8_behindTest_61 (by decide) ?_
        refine J_iconst (by decide) dX8_behindTest_66 ?_
        refine J_b0 (J_callV (b1 := 0) (ci := 8) (vs := [vI 29, vI 0]) (rest := []) (Or.inl rfl) ml_RX8_298 rfl (by decide) rfl rfl (Or.inl rfl) (Nat.le_of_ble_eq_true rfl) rfl dX8_behindTest_67 (c_X8_emit  K.1 ?_))
        replace K := K.2
        replace K := K _ rfl
        show J _ _ _ _ _ _ _ [] _
        refine J_aload_n rfl dX8_behindTest_70 ?_
        refine J_b0 (J_callV (b1 := 0) (ci := 8) (vs := []) (rest := []) (Or.inl rfl) ml_RX8_254 rfl (by decide) rfl rfl (Or.inl rfl) (Nat.le_of_ble_eq_true rfl) rfl dX8_behindTest_71 (WM_mono K (fun r h11 K => ?_)))
        obtain ⟨rfl, K⟩ := K
        show J _ _ _ _ _ _ _ [] _
        refine J_iconst (by decide) dX8_behindTest_74 ?_
        exact J_ireturn rfl dX8_behindTest_75 K
  · replace K := K.2 c
    refine J_iconst (by decide) dX8_behindTest_27 ?_
    refine J_goto (tgt := 32) dX8_behindTest_28 (by decide) ?_
    refine J_b0 (J_callV (b1 := 0) (ci := 8) (vs := [vI 2]) (rest := []) (Or.inl rfl) ml_RX8_354 rfl (by decide) rfl rfl (Or.inl rfl) (Nat.le_of_ble_eq_true rfl) rfl dX8_behindTest_32 (WM_mono K (fun r h12 K => ?_)))
    obtain ⟨rfl, K⟩ := K
    show J _ _ _ _ _ _ _ [] _
    refine J_aload_n rfl dX8_behindTest_35 ?_
    refine J_iload_n rfl dX8_behindTest_36 ?_
    refine J_if_eq (tgt := 45) dX8_behindTest_37 (by decide) (fun c => ?_) (fun c => ?_)
    · replace K := K.1 c
      refine J_bipush (by decide) (by decide) dX8_behindTest_45 ?_
      refine J_aload_n rfl dX8_behindTest_47 ?_
      refine J_getI fl_RX8_289 rfl (Or.inl rfl) dX8_behindTest_48 ?_
      refine J_b0 (J_callV (b1 := 0) (ci := 8) (vs := [vI 30, vI _]) (rest := []) (Or.inl rfl) ml_RX8_315 rfl (by decide) rfl rfl (Or.inl rfl) (Nat.le_of_ble_eq_true rfl) rfl dX8_behindTest_51 (c_X8_push  K.1 ?_))
      replace K := K.2
      replace K := K _ rfl
      show J _ _ _ _ _ _ _ [] _
      refine J_aload_n rfl dX8_behindTest_54 ?_
      refine J_iload_n rfl dX8_behindTest_55 ?_
      refine J_if_eq (tgt := 64) dX8_behindTest_56 (by decide) (fun c => ?_) (fun c => ?_)
      · replace K := K.1 c
        refine J_bipush (by decide) (by decide) dX8_behindTest_64 ?_
        refine J_iconst (by decide) dX8_behindTest_66 ?_
        refine J_b0 (J_callV (b1 := 0) (ci := 8) (vs := [vI 30, vI 0]) (rest := []) (Or.inl rfl) ml_RX8_298 rfl (by decide) rfl rfl (Or.inl rfl) (Nat.le_of_ble_eq_true rfl) rfl dX8_behindTest_67 (c_X8_emit  K.1 ?_))
        replace K := K.2
        replace K := K _ rfl
        show J _ _ _ _ _ _ _ [] _
        refine J_aload_n rfl dX8_behindTest_70 ?_
        refine J_b0 (J_callV (b1 := 0) (ci := 8) (vs := []) (rest := []) (Or.inl rfl) ml_RX8_254 rfl (by decide) rfl rfl (Or.inl rfl) (Nat.le_of_ble_eq_true rfl) rfl dX8_behindTest_71 (WM_mono K (fun r h15 K => ?_)))
        obtain ⟨rfl, K⟩ := K
        show J _ _ _ _ _ _ _ [] _
        refine J_iconst (by decide) dX8_behindTest_74 ?_
        exact J_ireturn rfl dX8_behindTest_75 K
      · replace K := K.2 c
        refine J_bipush (by decide) (by decide) dX8_behindTest_59 ?_
        refine J_goto (tgt := 66) dX8_behindTest_61 (by decide) ?_
        refine J_iconst (by decide) dX8_behindTest_66 ?_
        refine J_b0 (J_callV (b1 := 0) (ci := 8) (vs := [vI 29, vI 0]) (rest := []) (Or.inl rfl) ml_RX8_298 rfl (by decide) rfl rfl (Or.inl rfl) (Nat.le_of_ble_eq_true rfl) rfl dX8_behindTest_67 (c_X8_emit  K.1 ?_))
        replace K := K.2
        replace K := K _ rfl
        show J _ _ _ _ _ _ _ [] _
        refine J_aload_n rfl dX8_behindTest_70 ?_
        refine J_b0 (J_callV (b1 := 0) (ci := 8) (vs := []) (rest := []) (Or.inl rfl) ml_RX8_254 rfl (by decide) rfl rfl (Or.inl rfl) (Nat.le_of_ble_eq_true rfl) rfl dX8_behindTest_71 (WM_mono K (fun r h17 K => ?_)))
        obtain ⟨rfl, K⟩ := K
        show J _ _ _ _ _ _ _ [] _
        refine J_iconst (by decide) dX8_behindTest_74 ?_
        exact J_ireturn rfl dX8_behindTest_75 K
    · replace K := K.2 c
      refine J_bipush (by decide) (by decide) dX8_behindTest_40 ?_
      refine J_goto (tgt := 47) dX8_behindTest_42 (by decide) ?_
      refine J_aload_n rfl dX8_behindTest_47 ?_
      refine J_getI fl_RX8_289 rfl (Or.inl rfl) dX8_behindTest_48 ?_
      refine J_b0 (J_callV (b1 := 0) (ci := 8) (vs := [vI 29, vI _]) (rest := []) (Or.inl rfl) ml_RX8_315 rfl (by decide) rfl rfl (Or.inl rfl) (Nat.le_of_ble_eq_true rfl) rfl dX8_behindTest_51 (c_X8_push  K.1 ?_))
      replace K := K.2
      replace K := K _ rfl
      show J _ _ _ _ _ _ _ [] _
      refine J_aload_n rfl dX8_behindTest_54 ?_
      refine J_iload_n rfl dX8_behindTest_55 ?_
      refine J_if_eq (tgt := 64) dX8_behindTest_56 (by decide) (fun c => ?_) (fun c => ?_)
      · replace K := K.1 c
        refine J_bipush (by decide) (by decide) dX8_behindTest_64 ?_
        refine J_iconst (by decide) dX8_behindTest_66 ?_
        refine J_b0 (J_callV (b1 := 0) (ci := 8) (vs := [vI 30, vI 0]) (rest := []) (Or.inl rfl) ml_RX8_298 rfl (by decide) rfl rfl (Or.inl rfl) (Nat.le_of_ble_eq_true rfl) rfl dX8_behindTest_67 (c_X8_emit  K.1 ?_))
        replace K := K.2
        replace K := K _ rfl
        show J _ _ _ _ _ _ _ [] _
        refine J_aload_n rfl dX8_behindTest_70 ?_
        refine J_b0 (J_callV (b1 := 0) (ci := 8) (vs := []) (rest := []) (Or.inl rfl) ml_RX8_254 rfl (by decide) rfl rfl (Or.inl rfl) (Nat.le_of_ble_eq_true rfl) rfl dX8_behindTest_71 (WM_mono K (fun r h20 K => ?_)))
        obtain ⟨rfl, K⟩ := K
        show J _ _ _ _ _ _ _ [] _
        refine J_iconst (by decide) dX8_behindTest_74 ?_
        exact J_ireturn rfl dX8_behindTest_75 K
      · replace K := K.2 c
        refine J_bipush (by decide) (by decide) dX8_behindTest_59 ?_
        refine J_goto (tgt := 66) dX8_behindTest_61 (by decide) ?_
        refine J_iconst (by decide) dX8_behindTest_66 ?_
        refine J_b0 (J_callV (b1 := 0) (ci := 8) (vs := [vI 29, vI 0]) (rest := []) (Or.inl rfl) ml_RX8_298 rfl (by decide) rfl rfl (Or.inl rfl) (Nat.le_of_ble_eq_true rfl) rfl dX8_behindTest_67 (c_X8_emit  K.1 ?_))
        replace K := K.2
        replace K := K _ rfl
        show J _ _ _ _ _ _ _ [] _
        refine J_aload_n rfl dX8_behindTest_70 ?_
        refine J_b0 (J_callV (b1 := 0) (ci := 8) (vs := []) (rest := []) (Or.inl rfl) ml_RX8_254 rfl (by decide) rfl rfl (Or.inl rfl) (Nat.le_of_ble_eq_true rfl) rfl dX8_behindTest_71 (WM_mono K (fun r h22 K => ?_)))
        obtain ⟨rfl, K⟩ := K
        show J _ _ _ _ _ _ _ [] _
        refine J_iconst (by decide) dX8_behindTest_74 ?_
        exact J_ireturn rfl dX8_behindTest_75 K
set_option maxRecDepth 20000 in
set_option maxHeartbeats 2000000 in
theorem w_X8_behindTest {d b : Nat} {Q : Option AV → AH → Prop} {h : AH}   (K : Lp_X8_behindTest_8 d b Q (b2i (gi h 0 16 = 1 ∧ gl h 0 17 = 1476)) h) : WM GM (d + 3) b mX8_behindTest [vR (some 0)] h Q := by
  refine WM_introE (loc' := [some (vR (some 0)), none]) rfl (by decide) (Nat.le_of_ble_eq_true rfl) ?_
  refine J_aload_n rfl dX8_behindTest_0 ?_
  refine J_ldc2 (n := 1476) (by decide) (by decide) kc_RX8_364 dX8_behindTest_1 ?_
  refine J_b0 (J_callV (b1 := 0) (ci := 8) (vs := [vL 1476]) (rest := []) (Or.inl rfl) ml_RX8_308 rfl (by decide) rfl rfl (Or.inl rfl) (Nat.le_of_ble_eq_true rfl) rfl dX8_behindTest_4 (c_X8_isWord   ?_))
  show J _ _ _ _ _ _ _ [vI (b2i (gi h 0 16 = 1 ∧ gl h 0 17 = 1476))] _
  refine J_istore_n (loc' := [some (vR (some 0)), some (vI (b2i (gi h 0 16 = 1 ∧ gl h 0 17 = 1476)))]) (by decide) rfl dX8_behindTest_7 ?_
  exact J_forget (loc' := [some (vR (some 0)), some (vI (b2i (gi h 0 16 = 1 ∧ gl h 0 17 = 1476)))]) (And.intro (Or.inr rfl) (And.intro (Or.inr rfl) True.intro)) K
def Lp_X8_readExpression_20 (d b : Nat) (Q : Option AV → AH → Prop)  (y1 : Int) (y2 : Int) (h : AH) : Prop := J GM (d + 6) b mX8_readExpression Q 20 [some (vR (some 0)), some (vI y1), some (vI y2)] [] h
set_option maxRecDepth 20000 in
set_option maxHeartbeats 2000000 in
theorem l_X8_readExpression_20 {d b : Nat} {Q : Option AV → AH → Prop} {h : AH}  {y1 : Int} {y2 : Int}  (K : (gi h 0 19 = 0 → (y2 = 4 → WM GM (d + 5) 0 mX8_settle [vR (some 0), vI 1] h (fun r h2 => r = none ∧ Q none h2)) ∧ (¬(y2 = 4) → (y2 = 0 → WM GM (d + 5) 0 mX8_readPlain [vR (some 0)] h (fun r h6 => ∃ u6, r = some (vI u6) ∧ Lp_X8_readExpression_20 d b Q y1 u6 h6)) ∧ (¬(y2 = 0) → (y2 = 1 → WM GM (d + 5) 0 mX8_readPart [vR (some 0)] h (fun r h5 => ∃ u5, r = some (vI u5) ∧ Lp_X8_readExpression_20 d b Q y1 u5 h5)) ∧ (¬(y2 = 1) → (y2 = 3 → WM GM (d + 5) 0 mX8_behindSum [vR (some 0), vI y1] h (fun r h4 => ∃ u4, r = some (vI u4) ∧ Lp_X8_readExpression_20 d b Q y1 u4 h4)) ∧ (¬(y2 = 3) → WM GM (d + 5) 0 mX8_behindTest [vR (some 0)] h (fun r h3 => ∃ u3, r = some (vI u3) ∧ Lp_X8_readExpression_20 d b Q y1 u3 h3)))))) ∧ (¬(gi h 0 19 = 0) → WM GM (d + 5) 0 mX8_settle [vR (some 0), vI 1] h (fun r h1 => r = none ∧ Q none h1))) : Lp_X8_readExpression_20 d b Q y1 y2 h := by
  unfold Lp_X8_readExpression_20
  refine J_aload_n rfl dX8_readExpression_20 ?_
  refine J_getI fl_RX8_250 rfl (Or.inl rfl) dX8_readExpression_21 ?_
  refine J_if_ne (tgt := 76) dX8_readExpression_24 (by decide) (fun c => ?_) (fun c => ?_)
  · replace K := K.2 c
    refine J_aload_n rfl dX8_readExpression_76 ?_
    refine J_iconst (by decide) dX8_readExpression_77 ?_
    refine J_b0 (J_callV (b1 := 0) (ci := 8) (vs := [vI 1]) (rest := []) (Or.inl rfl) ml_RX8_354 rfl (by decide) rfl rfl (Or.inl rfl) (Nat.le_of_ble_eq_true rfl) rfl dX8_readExpression_78 (WM_mono K (fun r h1 K => ?_)))
    obtain ⟨rfl, K⟩ := K
    show J _ _ _ _ _ _ _ [] _
    exact J_return rfl dX8_readExpression_81 K
  · replace K := K.1 c
    refine J_iload_n rfl dX8_readExpression_27 ?_
    refine J_iconst (by decide) dX8_readExpression_28 ?_
    refine J_icmp_eq (tgt := 76) dX8_readExpression_29 (by decide) (fun c => ?_) (fun c => ?_)
    · replace K := K.1 c
      refine J_aload_n rfl dX8_readExpression_76 ?_
      refine J_iconst (by decide) dX8_readExpression_77 ?_
      refine J_b0 (J_callV (b1 := 0) (ci := 8) (vs := [vI 1]) (rest := []) (Or.inl rfl) ml_RX8_354 rfl (by decide) rfl rfl (Or.inl rfl) (Nat.le_of_ble_eq_true rfl) rfl dX8_readExpression_78 (WM_mono K (fun r h2 K => ?_)))
      obtain ⟨rfl, K⟩ := K
      show J _ _ _ _ _ _ _ [] _
      exact J_return rfl dX8_readExpression_81 K
    · replace K := K.2 c
      refine J_iload_n rfl dX8_readExpression_32 ?_
      refine J_if_ne (tgt := 43) dX8_readExpression_33 (by decide) (fun c => ?_) (fun c => ?_)
      · replace K := K.2 c
        refine J_iload_n rfl dX8_readExpression_43 ?_
        refine J_iconst (by decide) dX8_readExpression_44 ?_
        refine J_icmp_ne (tgt := 55) dX8_readExpression_45 (by decide) (fun c => ?_) (fun c => ?_)
        · replace K := K.2 c
          refine J_iload_n rfl dX8_readExpression_55 ?_
          refine J_iconst (by decide) dX8_readExpression_56 ?_
          refine J_icmp_ne (tgt := 68) dX8_readExpression_57 (by decide) (fun c => ?_) (fun c => ?_)
          · replace K := K.2 c
            refine J_aload_n rfl dX8_readExpression_68 ?_
            refine J_b0 (J_callV (b1 := 0) (ci := 8) (vs := []) (rest := []) (Or.inl rfl) ml_RX8_375 rfl (by decide) rfl rfl (Or.inl rfl) (Nat.le_of_ble_eq_true rfl) rfl dX8_readExpression_69 (WM_mono K (fun r h3 K => ?_)))
            obtain ⟨u3, rfl, K⟩ := K
            show J _ _ _ _ _ _ _ [vI u3] _
            refine J_istore_n (loc' := [some (vR (some 0)), some (vI y1), some (vI u3)]) (by decide) rfl dX8_readExpression_72 ?_
            refine J_goto (tgt := 20) dX8_readExpression_73 (by decide) ?_
            exact J_forget (loc' := [some (vR (some 0)), some (vI y1), some (vI u3)]) (And.intro (Or.inr rfl) (And.intro (Or.inr rfl) (And.intro (Or.inr rfl) True.intro))) K
          · replace K := K.1 c
            refine J_aload_n rfl dX8_readExpression_60 ?_
            refine J_iload_n rfl dX8_readExpression_61 ?_
            refine J_b0 (J_callV (b1 := 0) (ci := 8) (vs := [vI y1]) (rest := []) (Or.inl rfl) ml_RX8_371 rfl (by decide) rfl rfl (Or.inl rfl) (Nat.le_of_ble_eq_true rfl) rfl dX8_readExpression_62 (WM_mono K (fun r h4 K => ?_)))
            obtain ⟨u4, rfl, K⟩ := K
            show J _ _ _ _ _ _ _ [vI u4] _
            refine J_goto (tgt := 72) dX8_readExpression_65 (by decide) ?_
            refine J_istore_n (loc' := [some (vR (some 0)), some (vI y1), some (vI u4)]) (by decide) rfl dX8_readExpression_72 ?_
            refine J_goto (tgt := 20) dX8_readExpression_73 (by decide) ?_
            exact J_forget (loc' := [some (vR (some 0)), some (vI y1), some (vI u4)]) (And.intro (Or.inr rfl) (And.intro (Or.inr rfl) (And.intro (Or.inr rfl) True.intro))) K
        · replace K := K.1 c
          refine J_aload_n rfl dX8_readExpression_48 ?_
          refine J_b0 (J_callV (b1 := 0) (ci := 8) (vs := []) (rest := []) (Or.inl rfl) ml_RX8_351 rfl (by decide) rfl rfl (Or.inl rfl) (Nat.le_of_ble_eq_true rfl) rfl dX8_readExpression_49 (WM_mono K (fun r h5 K => ?_)))
          obtain ⟨u5, rfl, K⟩ := K
          show J _ _ _ _ _ _ _ [vI u5] _
          refine J_goto (tgt := 72) dX8_readExpression_52 (by decide) ?_
          refine J_istore_n (loc' := [some (vR (some 0)), some (vI y1), some (vI u5)]) (by decide) rfl dX8_readExpression_72 ?_
          refine J_goto (tgt := 20) dX8_readExpression_73 (by decide) ?_
          exact J_forget (loc' := [some (vR (some 0)), some (vI y1), some (vI u5)]) (And.intro (Or.inr rfl) (And.intro (Or.inr rfl) (And.intro (Or.inr rfl) True.intro))) K
      · replace K := K.1 c
        refine J_aload_n rfl dX8_readExpression_36 ?_
        refine J_b0 (J_callV (b1 := 0) (ci := 8) (vs := []) (rest := []) (Or.inl rfl) ml_RX8_368 rfl (by decide) rfl rfl (Or.inl rfl) (Nat.le_of_ble_eq_true rfl) rfl dX8_readExpression_37 (WM_mono K (fun r h6 K => ?_)))
        obtain ⟨u6, rfl, K⟩ := K
        show J _ _ _ _ _ _ _ [vI u6] _
        refine J_goto (tgt := 72) dX8_readExpression_40 (by decide) ?_
        refine J_istore_n (loc' := [some (vR (some 0)), some (vI y1), some (vI u6)]) (by decide) rfl dX8_readExpression_72 ?_
        refine J_goto (tgt := 20) dX8_readExpression_73 (by decide) ?_
        exact J_forget (loc' := [some (vR (some 0)), some (vI y1), some (vI u6)]) (And.intro (Or.inr rfl) (And.intro (Or.inr rfl) (And.intro (Or.inr rfl) True.intro))) K
set_option maxRecDepth 20000 in
set_option maxHeartbeats 2000000 in
theorem w_X8_readExpression {d b : Nat} {Q : Option AV → AH → Prop} {h : AH} {x1 : Int}  (K : ∀ h1, h1 = si h 0 29 0 → ∀ h2, h2 = si h1 0 30 0 → (x1 = 0 → Lp_X8_readExpression_20 d b Q x1 1 h2) ∧ (¬(x1 = 0) → Lp_X8_readExpression_20 d b Q x1 0 h2)) : WM GM (d + 6) b mX8_readExpression [vR (some 0), vI x1] h Q := by
  refine WM_introE (loc' := [some (vR (some 0)), some (vI x1), none]) rfl (by decide) (Nat.le_of_ble_eq_true rfl) ?_
  refine J_aload_n rfl dX8_readExpression_0 ?_
  refine J_iconst (by decide) dX8_readExpression_1 ?_
  refine J_putI fl_RX8_292 rfl (Or.inl rfl) dX8_readExpression_2 ?_
  replace K := K _ rfl
  refine J_aload_n rfl dX8_readExpression_5 ?_
  refine J_iconst (by decide) dX8_readExpression_6 ?_
  refine J_putI fl_RX8_312 rfl (Or.inl rfl) dX8_readExpression_7 ?_
  replace K := K _ rfl
  refine J_iload_n rfl dX8_readExpression_10 ?_
  refine J_if_eq (tgt := 18) dX8_readExpression_11 (by decide) (fun c => ?_) (fun c => ?_)
  · replace K := K.1 c
    refine J_iconst (by decide) dX8_readExpression_18 ?_
    refine J_istore_n (loc' := [some (vR (some 0)), some (vI x1), some (vI 1)]) (by decide) rfl dX8_readExpression_19 ?_
    exact J_forget (loc' := [some (vR (some 0)), some (vI x1), some (vI 1)]) (And.intro (Or.inr rfl) (And.intro (Or.inr rfl) (And.intro (Or.inr rfl) True.intro))) K
  · replace K := K.2 c
    refine J_iconst (by decide) dX8_readExpression_14 ?_
    refine J_goto (tgt := 19) dX8_readExpression_15 (by decide) ?_
    refine J_istore_n (loc' := [some (vR (some 0)), some (vI x1), some (vI 0)]) (by decide) rfl dX8_readExpression_19 ?_
    exact J_forget (loc' := [some (vR (some 0)), some (vI x1), some (vI 0)]) (And.intro (Or.inr rfl) (And.intro (Or.inr rfl) (And.intro (Or.inr rfl) True.intro))) K
