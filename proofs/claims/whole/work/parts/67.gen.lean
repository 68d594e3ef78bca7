def Lp_X3_part_130 (d b : Nat) (Q : Option AV → AH → Prop)  (y2 : Int) (y3 : Int) (h : AH) : Prop := J GX (d + 1) b mX3_part Q 130 [some (vR (some 31)), none, some (vI y2), some (vI y3), none] [] h
def Lp_X3_part_166 (d b : Nat) (Q : Option AV → AH → Prop)  (y2 : Int) (y3 : Int) (h : AH) : Prop := J GX (d + 1) b mX3_part Q 166 [some (vR (some 31)), none, some (vI y2), some (vI y3), none] [] h
set_option maxRecDepth 20000 in
set_option maxHeartbeats 2000000 in
theorem l_X3_part_130 {d b : Nat} {Q : Option AV → AH → Prop} {h : AH}  {y2 : Int} {y3 : Int}  (K : (y2 = 0 → (y3 < 14 → Lp_X3_part_166 d b Q y2 y3 h) ∧ (¬(y3 < 14) → (0 ≤ gi h 31 4 ∧ gi h 31 4 ≤ 400 ∧ gi h 31 3 ≤ 401) ∧ ∀ h1, h1 = advX h → (0 ≤ gi h1 31 4 ∧ gi h1 31 4 ≤ 400) ∧ (nFrom h1 0 7 = (-1) → Q (some (vI 0)) h1) ∧ (¬(nFrom h1 0 7 = (-1)) → R32 (y3 + (nFrom h1 0 7)) ∧ Lp_X3_part_166 d b Q y2 (y3 + (nFrom h1 0 7)) h1))) ∧ (¬(y2 = 0) → Lp_X3_part_166 d b Q y2 y3 h)) : Lp_X3_part_130 d b Q y2 y3 h := by
  unfold Lp_X3_part_130
  refine J_iload_n rfl dX3_part_130 ?_
  refine J_if_ne (tgt := 166) dX3_part_131 (by decide) (fun c => ?_) (fun c => ?_)
  · replace K := K.2 c
    exact J_forget (loc' := [some (vR (some 31)), none, some (vI y2), some (vI y3), none]) (And.intro (Or.inr rfl) (And.intro (Or.inl rfl) (And.intro (Or.inr rfl) (And.intro (Or.inr rfl) (And.intro (Or.inl rfl) True.intro))))) K
  · replace K := K.1 c
    refine J_iload_n rfl dX3_part_134 ?_
    refine J_bipush (by decide) (by decide) dX3_part_135 ?_
    refine J_icmp_lt (tgt := 166) dX3_part_137 (by decide) (fun c => ?_) (fun c => ?_)
    · replace K := K.1 c
      exact J_forget (loc' := [some (vR (some 31)), none, some (vI y2), some (vI y3), none]) (And.intro (Or.inr rfl) (And.intro (Or.inl rfl) (And.intro (Or.inr rfl) (And.intro (Or.inr rfl) (And.intro (Or.inl rfl) True.intro))))) K
    · replace K := K.2 c
      refine J_aload_n rfl dX3_part_140 ?_
      refine J_b0 (J_callV (b1 := 0) (ci := 3) (vs := []) (rest := []) (Or.inl rfl) ml_RX3_67 rfl (by decide) rfl rfl (Or.inl rfl) (Nat.le_of_ble_eq_true rfl) rfl dX3_part_141 (c_X3_advance  K.1 ?_))
      replace K := K.2
      replace K := K _ rfl
      show J _ _ _ _ _ _ _ [] _
      refine J_aload_n rfl dX3_part_144 ?_
      refine J_iconst (by decide) dX3_part_145 ?_
      refine J_bipush (by decide) (by decide) dX3_part_146 ?_
      refine J_b0 (J_callV (b1 := 0) (ci := 3) (vs := [vI 0, vI 7]) (rest := []) (Or.inl rfl) ml_RX3_127 rfl (by decide) rfl rfl (Or.inl rfl) (Nat.le_of_ble_eq_true rfl) rfl dX3_part_148 (c_X3_numberFrom  K.1 ?_))
      replace K := K.2
      show J _ _ _ _ _ _ _ [vI _] _
      refine J_istore (loc' := [some (vR (some 31)), none, some (vI y2), some (vI y3), some (vI _)]) (by decide) rfl dX3_part_151 ?_
      refine J_iload rfl dX3_part_153 ?_
      refine J_iconst (by decide) dX3_part_155 ?_
      refine J_icmp_ne (tgt := 161) dX3_part_156 (by decide) (fun c => ?_) (fun c => ?_)
      · replace K := K.2 c
        refine J_iload_n rfl dX3_part_161 ?_
        refine J_iload rfl dX3_part_162 ?_
        refine J_iadd K.1 dX3_part_164 ?_
        replace K := K.2
        refine J_istore_n (loc' := [some (vR (some 31)), none, some (vI y2), some (vI _), some (vI _)]) (by decide) rfl dX3_part_165 ?_
        exact J_forget (loc' := [some (vR (some 31)), none, some (vI y2), some (vI _), none]) (And.intro (Or.inr rfl) (And.intro (Or.inl rfl) (And.intro (Or.inr rfl) (And.intro (Or.inr rfl) (And.intro (Or.inl rfl) True.intro))))) K
      · replace K := K.1 c
        refine J_iconst (by decide) dX3_part_159 ?_
        exact J_zreturn ⟨rfl, by decide⟩ dX3_part_160 K
set_option maxRecDepth 20000 in
set_option maxHeartbeats 2000000 in
theorem l_X3_part_166 {d b : Nat} {Q : Option AV → AH → Prop} {h : AH}  {y2 : Int} {y3 : Int}  (K : (y2 = 0 → (0 ≤ gi h 35 2 ∧ gi h 35 2 ≤ 872) ∧ ∀ h1, h1 = addX h 2 y3 → R32 ((gi h1 31 6) + 1) ∧ ∀ h2, h2 = si h1 31 6 ((gi h1 31 6) + 1) → (0 ≤ gi h2 31 4 ∧ gi h2 31 4 ≤ 400 ∧ gi h2 31 3 ≤ 401) ∧ ∀ h3, h3 = advX h2 → Q (some (vI 1)) h3) ∧ (¬(y2 = 0) → (0 ≤ gi h 35 2 ∧ gi h 35 2 ≤ 872) ∧ ∀ h4, h4 = addX h 1 y3 → R32 ((gi h4 31 6) + 1) ∧ ∀ h5, h5 = si h4 31 6 ((gi h4 31 6) + 1) → (0 ≤ gi h5 31 4 ∧ gi h5 31 4 ≤ 400 ∧ gi h5 31 3 ≤ 401) ∧ ∀ h6, h6 = advX h5 → Q (some (vI 1)) h6)) : Lp_X3_part_166 d b Q y2 y3 h := by
  unfold Lp_X3_part_166
  refine J_aload_n rfl dX3_part_166 ?_
  refine J_getS (r := 35) fl_RX3_46 rfl (Or.inl rfl) rfl dX3_part_167 ?_
  refine J_iload_n rfl dX3_part_170 ?_
  refine J_if_eq (tgt := 178) dX3_part_171 (by decide) (fun c => ?_) (fun c => ?_)
  · replace K := K.1 c
    refine J_iconst (by decide) dX3_part_178 ?_
    refine J_iload_n rfl dX3_part_179 ?_
    refine J_b0 (J_callV (b1 := 0) (ci := 5) (vs := [vI 2, vI y3]) (rest := []) (Or.inr rfl) ml_RX3_137 rfl (by decide) rfl rfl (Or.inl rfl) (Nat.le_of_ble_eq_true rfl) rfl dX3_part_180 (c_X5_add  K.1 ?_))
    replace K := K.2
    replace K := K _ rfl
    show J _ _ _ _ _ _ _ [] _
    refine J_aload_n rfl dX3_part_183 ?_
    refine J_dup rfl dX3_part_184 ?_
    refine J_getI fl_RX3_31 rfl (Or.inl rfl) dX3_part_185 ?_
    refine J_iconst (by decide) dX3_part_188 ?_
    refine J_iadd K.1 dX3_part_189 ?_
    replace K := K.2
    refine J_putI fl_RX3_31 rfl (Or.inl rfl) dX3_part_190 ?_
    replace K := K _ rfl
    refine J_aload_n rfl dX3_part_193 ?_
    refine J_b0 (J_callV (b1 := 0) (ci := 3) (vs := []) (rest := []) (Or.inl rfl) ml_RX3_67 rfl (by decide) rfl rfl (Or.inl rfl) (Nat.le_of_ble_eq_true rfl) rfl dX3_part_194 (c_X3_advance  K.1 ?_))
    replace K := K.2
    replace K := K _ rfl
    show J _ _ _ _ _ _ _ [] _
    refine J_iconst (by decide) dX3_part_197 ?_
    exact J_zreturn ⟨rfl, by decide⟩ dX3_part_198 K
  · replace K := K.2 c
    refine J_iconst (by decide) dX3_part_174 ?_
    refine J_goto (tgt := 179) dX3_part_175 (by decide) ?_
    refine J_iload_n rfl dX3_part_179 ?_
    refine J_b0 (J_callV (b1 := 0) (ci := 5) (vs := [vI 1, vI y3]) (rest := []) (Or.inr rfl) ml_RX3_137 rfl (by decide) rfl rfl (Or.inl rfl) (Nat.le_of_ble_eq_true rfl) rfl dX3_part_180 (c_X5_add  K.1 ?_))
    replace K := K.2
    replace K := K _ rfl
    show J _ _ _ _ _ _ _ [] _
    refine J_aload_n rfl dX3_part_183 ?_
    refine J_dup rfl dX3_part_184 ?_
    refine J_getI fl_RX3_31 rfl (Or.inl rfl) dX3_part_185 ?_
    refine J_iconst (by decide) dX3_part_188 ?_
    refine J_iadd K.1 dX3_part_189 ?_
    replace K := K.2
    refine J_putI fl_RX3_31 rfl (Or.inl rfl) dX3_part_190 ?_
    replace K := K _ rfl
    refine J_aload_n rfl dX3_part_193 ?_
    refine J_b0 (J_callV (b1 := 0) (ci := 3) (vs := []) (rest := []) (Or.inl rfl) ml_RX3_67 rfl (by decide) rfl rfl (Or.inl rfl) (Nat.le_of_ble_eq_true rfl) rfl dX3_part_194 (c_X3_advance  K.1 ?_))
    replace K := K.2
    replace K := K _ rfl
    show J _ _ _ _ _ _ _ [] _
    refine J_iconst (by decide) dX3_part_197 ?_
    exact J_zreturn ⟨rfl, by decide⟩ dX3_part_198 K
set_option maxRecDepth 20000 in
set_option maxHeartbeats 2000000 in
theorem w_X3_part {d b : Nat} {Q : Option AV → AH → Prop} {h : AH} {x1 : Int}  (K : (gi h 31 5 = 91 → (x1 < 8 → (0 ≤ gi h 31 4 ∧ gi h 31 4 ≤ 400 ∧ gi h 31 3 ≤ 401) ∧ ∀ h1, h1 = advX h → R32 (x1 + 1) ∧ WM GX d 0 mX3_sum [vR (some 31), vI (x1 + 1)] h1 (fun r h2 => ∃ u1, r = some (vI u1) ∧ (u1 = 0 → Q (some (vI 0)) h2) ∧ (¬(u1 = 0) → (gi h2 31 5 = 93 → (0 ≤ gi h2 31 4 ∧ gi h2 31 4 ≤ 400 ∧ gi h2 31 3 ≤ 401) ∧ ∀ h3, h3 = advX h2 → Q (some (vI 1)) h3) ∧ (¬(gi h2 31 5 = 93) → Q (some (vI 0)) h2)))) ∧ (¬(x1 < 8) → Q (some (vI 0)) h)) ∧ (¬(gi h 31 5 = 91) → (gi h 31 6 < 50 → (gi h 31 5 = 256 → (0 ≤ gi h 31 4 ∧ gi h 31 4 ≤ 400) ∧ (nFrom h 0 1000 = (-1) → Q (some (vI 0)) h) ∧ (¬(nFrom h 0 1000 = (-1)) → Lp_X3_part_130 d b Q 1 (nFrom h 0 1000) h)) ∧ (¬(gi h 31 5 = 256) → (gi h 31 7 = 0 → R32 ((gi h 31 5) - 258) ∧ (lFact ((gi h 31 5) - 258) = (-1) → Q (some (vI 0)) h) ∧ (¬(lFact ((gi h 31 5) - 258) = (-1)) → Lp_X3_part_130 d b Q 0 (lFact ((gi h 31 5) - 258)) h)) ∧ (¬(gi h 31 7 = 0) → R32 ((gi h 31 5) - 258) ∧ (oFact ((gi h 31 5) - 258) = (-1) → Q (some (vI 0)) h) ∧ (¬(oFact ((gi h 31 5) - 258) = (-1)) → Lp_X3_part_130 d b Q 0 (oFact ((gi h 31 5) - 258)) h)))) ∧ (¬(gi h 31 6 < 50) → Q (some (vI 0)) h))) : WM GX (d + 1) b mX3_part [vR (some 31), vI x1] h Q := by
  refine WM_introE (loc' := [some (vR (some 31)), some (vI x1), none, none, none]) rfl (by decide) (Nat.le_of_ble_eq_true rfl) ?_
  refine J_aload_n rfl dX3_part_0 ?_
  refine J_getI fl_RX3_28 rfl (Or.inl rfl) dX3_part_1 ?_
  refine J_bipush (by decide) (by decide) dX3_part_4 ?_
  refine J_icmp_ne (tgt := 48) dX3_part_6 (by decide) (fun c => ?_) (fun c => ?_)
  · replace K := K.2 c
    refine J_aload_n rfl dX3_part_48 ?_
    refine J_getI fl_RX3_31 rfl (Or.inl rfl) dX3_part_49 ?_
    refine J_bipush (by decide) (by decide) dX3_part_52 ?_
    refine J_icmp_lt (tgt := 59) dX3_part_54 (by decide) (fun c => ?_) (fun c => ?_)
    · replace K := K.1 c
      refine J_aload_n rfl dX3_part_59 ?_
      refine J_getI fl_RX3_28 rfl (Or.inl rfl) dX3_part_60 ?_
      refine J_sipush (by decide) (by decide) dX3_part_63 ?_
      refine J_icmp_ne (tgt := 73) dX3_part_66 (by decide) (fun c => ?_) (fun c => ?_)
      · replace K := K.2 c
        refine J_iconst (by decide) dX3_part_73 ?_
        refine J_istore_n (loc' := [some (vR (some 31)), some (vI x1), some (vI 0), none, none]) (by decide) rfl dX3_part_74 ?_
        refine J_iload_n rfl dX3_part_75 ?_
        refine J_if_eq (tgt := 90) dX3_part_76 (by decide) (fun _ => ?_) (fun c => absurd c (by decide))
        refine J_aload_n rfl dX3_part_90 ?_
        refine J_getI fl_RX3_34 rfl (Or.inl rfl) dX3_part_91 ?_
        refine J_if_eq (tgt := 111) dX3_part_94 (by decide) (fun c => ?_) (fun c => ?_)
        · replace K := K.1 c
          refine J_aload_n rfl dX3_part_111 ?_
          refine J_getI fl_RX3_28 rfl (Or.inl rfl) dX3_part_112 ?_
          refine J_sipush (by decide) (by decide) dX3_part_115 ?_
          refine J_isub K.1 dX3_part_118 ?_
          replace K := K.2
          refine J_b0 (J_callS (b1 := 0) (vs := [vI ((gi h 31 5) - 258)]) (rest := []) (Or.inl rfl) ml_RX3_155 rfl (by decide) (Nat.le_of_ble_eq_true rfl) rfl dX3_part_119 (c_X3_lawFact   ?_))
          show J _ _ _ _ _ _ _ [vI (lFact ((gi h 31 5) - 258))] _
          refine J_istore_n (loc' := [some (vR (some 31)), some (vI x1), some (vI 0), some (vI (lFact ((gi h 31 5) - 258))), none]) (by decide) rfl dX3_part_122 ?_
          refine J_iload_n rfl dX3_part_123 ?_
          refine J_iconst (by decide) dX3_part_124 ?_
          refine J_icmp_ne (tgt := 130) dX3_part_125 (by decide) (fun c => ?_) (fun c => ?_)
          · replace K := K.2 c
            exact J_forget (loc' := [some (vR (some 31)), none, some (vI 0), some (vI (lFact ((gi h 31 5) - 258))), none]) (And.intro (Or.inr rfl) (And.intro (Or.inl rfl) (And.intro (Or.inr rfl) (And.intro (Or.inr rfl) (And.intro (Or.inl rfl) True.intro))))) K
          · replace K := K.1 c
            refine J_iconst (by decide) dX3_part_128 ?_
            exact J_zreturn ⟨rfl, by decide⟩ dX3_part_129 K
        · replace K := K.2 c
          refine J_aload_n rfl dX3_part_97 ?_
          refine J_getI fl_RX3_28 rfl (Or.inl rfl) dX3_part_98 ?_
          refine J_sipush (by decide) (by decide) dX3_part_101 ?_
          refine J_isub K.1 dX3_part_104 ?_
          replace K := K.2
          refine J_b0 (J_callS (b1 := 0) (vs := [vI ((gi h 31 5) - 258)]) (rest := []) (Or.inl rfl) ml_RX3_152 rfl (by decide) (Nat.le_of_ble_eq_true rfl) rfl dX3_part_105 (c_X3_orderFact   ?_))
          show J _ _ _ _ _ _ _ [vI (oFact ((gi h 31 5) - 258))] _
          refine J_goto (tgt := 122) dX3_part_108 (by decide) ?_
          refine J_istore_n (loc' := [some (vR (some 31)), some (vI x1), some (vI 0), some (vI (oFact ((gi h 31 5) - 258))), none]) (by decide) rfl dX3_part_122 ?_
          refine J_iload_n rfl dX3_part_123 ?_
          refine J_iconst (by decide) dX3_part_124 ?_
          refine J_icmp_ne (tgt := 130) dX3_part_125 (by decide) (fun c => ?_) (fun c => ?_)
          · replace K := K.2 c
            exact J_forget (loc' := [some (vR (some 31)), none, some (vI 0), some (vI (oFact ((gi h 31 5) - 258))), none]) (And.intro (Or.inr rfl) (And.intro (Or.inl rfl) (And.intro (Or.inr rfl) (And.intro (Or.inr rfl) (And.intro (Or.inl rfl) True.intro))))) K
          · replace K := K.1 c
            refine J_iconst (by decide) dX3_part_128 ?_
            exact J_zreturn ⟨rfl, by decide⟩ dX3_part_129 K
      · replace K := K.1 c
        refine J_iconst (by decide) dX3_part_69 ?_
        refine J_goto (tgt := 74) dX3_part_70 (by decide) ?_
        refine J_istore_n (loc' := [some (vR (some 31)), some (vI x1), some (vI 1), none, none]) (by decide) rfl dX3_part_74 ?_
        refine J_iload_n rfl dX3_part_75 ?_
        refine J_if_eq (tgt := 90) dX3_part_76 (by decide) (fun c => absurd c (by decide)) (fun _ => ?_)
        refine J_aload_n rfl dX3_part_79 ?_
        refine J_iconst (by decide) dX3_part_80 ?_
        refine J_sipush (by decide) (by decide) dX3_part_81 ?_
        refine J_b0 (J_callV (b1 := 0) (ci := 3) (vs := [vI 0, vI 1000]) (rest := []) (Or.inl rfl) ml_RX3_127 rfl (by decide) rfl rfl (Or.inl rfl) (Nat.le_of_ble_eq_true rfl) rfl dX3_part_84 (c_X3_numberFrom  K.1 ?_))
        replace K := K.2
        show J _ _ _ _ _ _ _ [vI (nFrom h 0 1000)] _
        refine J_goto (tgt := 122) dX3_part_87 (by decide) ?_
        refine J_istore_n (loc' := [some (vR (some 31)), some (vI x1), some (vI 1), some (vI (nFrom h 0 1000)), none]) (by decide) rfl dX3_part_122 ?_
        refine J_iload_n rfl dX3_part_123 ?_
        refine J_iconst (by decide) dX3_part_124 ?_
        refine J_icmp_ne (tgt := 130) dX3_part_125 (by decide) (fun c => ?_) (fun c => ?_)
        · replace K := K.2 c
          exact J_forget (loc' := [some (vR (some 31)), none, some (vI 1), some (vI (nFrom h 0 1000)), none]) (And.intro (Or.inr rfl) (And.intro (Or.inl rfl) (And.intro (Or.inr rfl) (And.intro (Or.inr rfl) (And.intro (Or.inl rfl) True.intro))))) K
        · replace K := K.1 c
          refine J_iconst (by decide) dX3_part_128 ?_
          exact J_zreturn ⟨rfl, by decide⟩ dX3_part_129 K
    · replace K := K.2 c
      refine J_iconst (by decide) dX3_part_57 ?_
      exact J_zreturn ⟨rfl, by decide⟩ dX3_part_58 K
  · replace K := K.1 c
    refine J_iload_n rfl dX3_part_9 ?_
    refine J_bipush (by decide) (by decide) dX3_part_10 ?_
    refine J_icmp_lt (tgt := 17) dX3_part_12 (by decide) (fun c => ?_) (fun c => ?_)
    · replace K := K.1 c
      refine J_aload_n rfl dX3_part_17 ?_
      refine J_b0 (J_callV (b1 := 0) (ci := 3) (vs := []) (rest := []) (Or.inl rfl) ml_RX3_67 rfl (by decide) rfl rfl (Or.inl rfl) (Nat.le_of_ble_eq_true rfl) rfl dX3_part_18 (c_X3_advance  K.1 ?_))
      replace K := K.2
      replace K := K _ rfl
      show J _ _ _ _ _ _ _ [] _
      refine J_aload_n rfl dX3_part_21 ?_
      refine J_iload_n rfl dX3_part_22 ?_
      refine J_iconst (by decide) dX3_part_23 ?_
      refine J_iadd K.1 dX3_part_24 ?_
      replace K := K.2
      refine J_b0 (J_callV (b1 := 0) (ci := 3) (vs := [vI (x1 + 1)]) (rest := []) (Or.inl rfl) ml_RX3_140 rfl (by decide) rfl rfl (Or.inl rfl) (Nat.le_of_ble_eq_true rfl) rfl dX3_part_25 (WM_mono K (fun r h2 K => ?_)))
      obtain ⟨u1, rfl, K⟩ := K
      show J _ _ _ _ _ _ _ [vI u1] _
      refine J_if_eq (tgt := 40) dX3_part_28 (by decide) (fun c => ?_) (fun c => ?_)
      · replace K := K.1 c
        refine J_iconst (by decide) dX3_part_40 ?_
        exact J_zreturn ⟨rfl, by decide⟩ dX3_part_41 K
      · replace K := K.2 c
        refine J_aload_n rfl dX3_part_31 ?_
        refine J_getI fl_RX3_28 rfl (Or.inl rfl) dX3_part_32 ?_
        refine J_bipush (by decide) (by decide) dX3_part_35 ?_
        refine J_icmp_eq (tgt := 42) dX3_part_37 (by decide) (fun c => ?_) (fun c => ?_)
        · replace K := K.1 c
          refine J_aload_n rfl dX3_part_42 ?_
          refine J_b0 (J_callV (b1 := 0) (ci := 3) (vs := []) (rest := []) (Or.inl rfl) ml_RX3_67 rfl (by decide) rfl rfl (Or.inl rfl) (Nat.le_of_ble_eq_true rfl) rfl dX3_part_43 (c_X3_advance  K.1 ?_))
          replace K := K.2
          replace K := K _ rfl
          show J _ _ _ _ _ _ _ [] _
          refine J_iconst (by decide) dX3_part_46 ?_
          exact J_zreturn ⟨rfl, by decide⟩ dX3_part_47 K
        · replace K := K.2 c
          refine J_iconst (by decide) dX3_part_40 ?_
          exact J_zreturn ⟨rfl, by decide⟩ dX3_part_41 K
    · replace K := K.2 c
      refine J_iconst (by decide) dX3_part_15 ?_
      exact J_zreturn ⟨rfl, by decide⟩ dX3_part_16 K
def Lp_X3_sum_11 (d b : Nat) (Q : Option AV → AH → Prop)  (y1 : Int) (y2 : Int) (y3 : Int) (y4 : Int) (h : AH) : Prop := J GX (d + 1) b mX3_sum Q 11 [some (vR (some 31)), some (vI y1), some (vI y2), some (vI y3), some (vI y4), none, none, none] [] h
def Lp_X3_sum_149 (d b : Nat) (Q : Option AV → AH → Prop)  (y2 : Int) (y3 : Int) (h : AH) : Prop := J GX (d + 1) b mX3_sum Q 149 [some (vR (some 31)), none, some (vI y2), some (vI y3), none, none, none, none] [] h
def Lp_X3_sum_50 (d b : Nat) (Q : Option AV → AH → Prop)  (y1 : Int) (y2 : Int) (y3 : Int) (y4 : Int) (y5 : Int) (y6 : Int) (h : AH) : Prop := J GX (d + 1) b mX3_sum Q 50 [some (vR (some 31)), some (vI y1), some (vI y2), some (vI y3), some (vI y4), some (vI y5), some (vI y6), none] [] h
def Lp_X3_sum_78 (d b : Nat) (Q : Option AV → AH → Prop)  (y1 : Int) (y2 : Int) (y3 : Int) (y4 : Int) (y5 : Int) (y6 : Int) (y7 : Int) (h : AH) : Prop := J GX (d + 1) b mX3_sum Q 78 [some (vR (some 31)), some (vI y1), some (vI y2), some (vI y3), some (vI y4), some (vI y5), some (vI y6), some (vI y7)] [] h
def Lp_X3_sum_91 (d b : Nat) (Q : Option AV → AH → Prop)  (y1 : Int) (y3 : Int) (y4 : Int) (y5 : Int) (y6 : Int) (y7 : Int) (h : AH) : Prop := J GX (d + 1) b mX3_sum Q 91 [some (vR (some 31)), some (vI y1), none, some (vI y3), some (vI y4), some (vI y5), some (vI y6), some (vI y7)] [] h
def Lp_X3_sum_114 (d b : Nat) (Q : Option AV → AH → Prop)  (y1 : Int) (y3 : Int) (y4 : Int) (y5 : Int) (y6 : Int) (y7 : Int) (h : AH) : Prop := J GX (d + 1) b mX3_sum Q 114 [some (vR (some 31)), some (vI y1), none, some (vI y3), some (vI y4), some (vI y5), some (vI y6), some (vI y7)] [] h
def Lp_X3_sum_122 (d b : Nat) (Q : Option AV → AH → Prop)  (y1 : Int) (y3 : Int) (y4 : Int) (y5 : Int) (y7 : Int) (h : AH) : Prop := J GX (d + 1) b mX3_sum Q 122 [some (vR (some 31)), some (vI y1), none, some (vI y3), some (vI y4), some (vI y5), none, some (vI y7)] [] h
def Lp_X3_sum_128 (d b : Nat) (Q : Option AV → AH → Prop)  (y1 : Int) (y2 : Int) (y3 : Int) (y4 : Int) (y5 : Int) (y7 : Int) (h : AH) : Prop := J GX (d + 1) b mX3_sum Q 128 [some (vR (some 31)), some (vI y1), some (vI y2), some (vI y3), some (vI y4), some (vI y5), none, some (vI y7)] [] h
def Lp_X3_sum_143 (d b : Nat) (Q : Option AV → AH → Prop)  (y1 : Int) (y2 : Int) (y3 : Int) (y4 : Int) (h : AH) : Prop := J GX (d + 1) b mX3_sum Q 143 [some (vR (some 31)), some (vI y1), some (vI y2), some (vI y3), some (vI y4), none, none, none] [] h
set_option maxRecDepth 20000 in
set_option maxHeartbeats 2000000 in
theorem l_X3_sum_11 {d b : Nat} {Q : Option AV → AH → Prop} {h : AH}  {y1 : Int} {y2 : Int} {y3 : Int} {y4 : Int}  (K : (400 ≤ y4 → Lp_X3_sum_149 d b Q y2 y3 h) ∧ (¬(400 ≤ y4) → (y2 = 0 → Lp_X3_sum_149 d b Q y2 y3 h) ∧ (¬(y2 = 0) → (gi h 31 5 = 43 → Lp_X3_sum_50 d b Q y1 y2 y3 y4 (gi h 31 5) 1 h) ∧ (¬(gi h 31 5 = 43) → (gi h 31 5 = 45 → Lp_X3_sum_50 d b Q y1 y2 y3 y4 (gi h 31 5) 1 h) ∧ (¬(gi h 31 5 = 45) → Lp_X3_sum_50 d b Q y1 y2 y3 y4 (gi h 31 5) 0 h))))) : Lp_X3_sum_11 d b Q y1 y2 y3 y4 h := by
  unfold Lp_X3_sum_11
  refine J_iload rfl dX3_sum_11 ?_
  refine J_sipush (by decide) (by decide) dX3_sum_13 ?_
  refine J_icmp_ge (tgt := 149) dX3_sum_16 (by decide) (fun c => ?_) (fun c => ?_)
  · replace K := K.1 c
    exact J_forget (loc' := [some (vR (some 31)), none, some (vI y2), some (vI y3), none, none, none, none]) (And.intro (Or.inr rfl) (And.intro (Or.inl rfl) (And.intro (Or.inr rfl) (And.intro (Or.inr rfl) (And.intro (Or.inl rfl) (And.intro (Or.inl rfl) (And.intro (Or.inl rfl) (And.intro (Or.inl rfl) True.intro)))))))) K
  · replace K := K.2 c
    refine J_iload_n rfl dX3_sum_19 ?_
    refine J_if_eq (tgt := 149) dX3_sum_20 (by decide) (fun c => ?_) (fun c => ?_)
    · replace K := K.1 c
      exact J_forget (loc' := [some (vR (some 31)), none, some (vI y2), some (vI y3), none, none, none, none]) (And.intro (Or.inr rfl) (And.intro (Or.inl rfl) (And.intro (Or.inr rfl) (And.intro (Or.inr rfl) (And.intro (Or.inl rfl) (And.intro (Or.inl rfl) (And.intro (Or.inl rfl) (And.intro (Or.inl rfl) True.intro)))))))) K
    · replace K := K.2 c
      refine J_aload_n rfl dX3_sum_23 ?_
      refine J_getI fl_RX3_28 rfl (Or.inl rfl) dX3_sum_24 ?_
      refine J_istore (loc' := [some (vR (some 31)), some (vI y1), some (vI y2), some (vI y3), some (vI y4), some (vI (gi h 31 5)), none, none]) (by decide) rfl dX3_sum_27 ?_
      refine J_iload rfl dX3_sum_29 ?_
      refine J_bipush (by decide) (by decide) dX3_sum_31 ?_
      refine J_icmp_eq (tgt := 43) dX3_sum_33 (by decide) (fun c => ?_) (fun c => ?_)
      · replace K := K.1 c
        refine J_iconst (by decide) dX3_sum_43 ?_
        refine J_goto (tgt := 48) dX3_sum_44 (by decide) ?_
        refine J_istore (loc' := [some (vR (some 31)), some (vI y1), some (vI y2), some (vI y3), some (vI y4), some (vI (gi h 31 5)), some (vI 1), none]) (by decide) rfl dX3_sum_48 ?_
        exact J_forget (loc' := [some (vR (some 31)), some (vI y1), some (vI y2), some (vI y3), some (vI y4), some (vI (gi h 31 5)), some (vI 1), none]) (And.intro (Or.inr rfl) (And.intro (Or.inr rfl) (And.intro (Or.inr rfl) (And.intro (Or.inr rfl) (And.intro (Or.inr rfl) (And.intro (Or.inr rfl) (And.intro (Or.inr rfl) (And.intro (Or.inl rfl) True.intro)))))))) K
      · replace K := K.2 c
        refine J_iload rfl dX3_sum_36 ?_
        refine J_bipush (by decide) (by decide) dX3_sum_38 ?_
        refine J_icmp_ne (tgt := 47) dX3_sum_40 (by decide) (fun c => ?_) (fun c => ?_)
        · replace K := K.2 c
          refine J_iconst (by decide) dX3_sum_47 ?_
          refine J_istore (loc' := [some (vR (some 31)), some (vI y1), some (vI y2), some (vI y3), some (vI y4), some (vI (gi h 31 5)), some (vI 0), none]) (by decide) rfl dX3_sum_48 ?_
          exact J_forget (loc' := [some (vR (some 31)), some (vI y1), some (vI y2), some (vI y3), some (vI y4), some (vI (gi h 31 5)), some (vI 0), none]) (And.intro (Or.inr rfl) (And.intro (Or.inr rfl) (And.intro (Or.inr rfl) (And.intro (Or.inr rfl) (And.intro (Or.inr rfl) (And.intro (Or.inr rfl) (And.intro (Or.inr rfl) (And.intro (Or.inl rfl) True.intro)))))))) K
        · replace K := K.1 c
          refine J_iconst (by decide) dX3_sum_43 ?_
          refine J_goto (tgt := 48) dX3_sum_44 (by decide) ?_
          refine J_istore (loc' := [some (vR (some 31)), some (vI y1), some (vI y2), some (vI y3), some (vI y4), some (vI (gi h 31 5)), some (vI 1), none]) (by decide) rfl dX3_sum_48 ?_
          exact J_forget (loc' := [some (vR (some 31)), some (vI y1), some (vI y2), some (vI y3), some (vI y4), some (vI (gi h 31 5)), some (vI 1), none]) (And.intro (Or.inr rfl) (And.intro (Or.inr rfl) (And.intro (Or.inr rfl) (And.intro (Or.inr rfl) (And.intro (Or.inr rfl) (And.intro (Or.inr rfl) (And.intro (Or.inr rfl) (And.intro (Or.inl rfl) True.intro)))))))) K
set_option maxRecDepth 20000 in
set_option maxHeartbeats 2000000 in
theorem l_X3_sum_149 {d b : Nat} {Q : Option AV → AH → Prop} {h : AH}  {y2 : Int} {y3 : Int}  (K : (y3 = (-1) → (y2 = 0 ∨ y2 = 1) ∧ Q (some (vI y2)) h) ∧ (¬(y3 = (-1)) → (0 ≤ gi h 35 2 ∧ gi h 35 2 ≤ 872) ∧ ∀ h1, h1 = addX h y3 0 → (y2 = 0 ∨ y2 = 1) ∧ Q (some (vI y2)) h1)) : Lp_X3_sum_149 d b Q y2 y3 h := by
  unfold Lp_X3_sum_149
  refine J_iload_n rfl dX3_sum_149 ?_
  refine J_iconst (by decide) dX3_sum_150 ?_
  refine J_icmp_eq (tgt := 163) dX3_sum_151 (by decide) (fun c => ?_) (fun c => ?_)
  · replace K := K.1 c
    refine J_iload_n rfl dX3_sum_163 ?_
    exact J_zreturn ⟨rfl, K.1⟩ dX3_sum_164 K.2
  · replace K := K.2 c
    refine J_aload_n rfl dX3_sum_154 ?_
    refine J_getS (r := 35) fl_RX3_46 rfl (Or.inl rfl) rfl dX3_sum_155 ?_
    refine J_iload_n rfl dX3_sum_158 ?_
    refine J_iconst (by decide) dX3_sum_159 ?_
    refine J_b0 (J_callV (b1 := 0) (ci := 5) (vs := [vI y3, vI 0]) (rest := []) (Or.inr rfl) ml_RX3_137 rfl (by decide) rfl rfl (Or.inl rfl) (Nat.le_of_ble_eq_true rfl) rfl dX3_sum_160 (c_X5_add  K.1 ?_))
    replace K := K.2
    replace K := K _ rfl
    show J _ _ _ _ _ _ _ [] _
    refine J_iload_n rfl dX3_sum_163 ?_
    exact J_zreturn ⟨rfl, K.1⟩ dX3_sum_164 K.2
set_option maxRecDepth 20000 in
set_option maxHeartbeats 2000000 in
theorem l_X3_sum_50 {d b : Nat} {Q : Option AV → AH → Prop} {h : AH}  {y1 : Int} {y2 : Int} {y3 : Int} {y4 : Int} {y5 : Int} {y6 : Int}  (K : (y5 = 42 → Lp_X3_sum_78 d b Q y1 y2 y3 y4 y5 y6 1 h) ∧ (¬(y5 = 42) → (y5 = 47 → Lp_X3_sum_78 d b Q y1 y2 y3 y4 y5 y6 1 h) ∧ (¬(y5 = 47) → (y5 = 37 → Lp_X3_sum_78 d b Q y1 y2 y3 y4 y5 y6 1 h) ∧ (¬(y5 = 37) → Lp_X3_sum_78 d b Q y1 y2 y3 y4 y5 y6 0 h)))) : Lp_X3_sum_50 d b Q y1 y2 y3 y4 y5 y6 h := by
  unfold Lp_X3_sum_50
  refine J_iload rfl dX3_sum_50 ?_
  refine J_bipush (by decide) (by decide) dX3_sum_52 ?_
  refine J_icmp_eq (tgt := 71) dX3_sum_54 (by decide) (fun c => ?_) (fun c => ?_)
  · replace K := K.1 c
    refine J_iconst (by decide) dX3_sum_71 ?_
    refine J_goto (tgt := 76) dX3_sum_72 (by decide) ?_
    refine J_istore (loc' := [some (vR (some 31)), some (vI y1), some (vI y2), some (vI y3), some (vI y4), some (vI y5), some (vI y6), some (vI 1)]) (by decide) rfl dX3_sum_76 ?_
    exact J_forget (loc' := [some (vR (some 31)), some (vI y1), some (vI y2), some (vI y3), some (vI y4), some (vI y5), some (vI y6), some (vI 1)]) (And.intro (Or.inr rfl) (And.intro (Or.inr rfl) (And.intro (Or.inr rfl) (And.intro (Or.inr rfl) (And.intro (Or.inr rfl) (And.intro (Or.inr rfl) (And.intro (Or.inr rfl) (And.intro (Or.inr rfl) True.intro)))))))) K
  · replace K := K.2 c
    refine J_iload rfl dX3_sum_57 ?_
    refine J_bipush (by decide) (by decide) dX3_sum_59 ?_
    refine J_icmp_eq (tgt := 71) dX3_sum_61 (by decide) (fun c => ?_) (fun c => ?_)
    · replace K := K.1 c
      refine J_iconst (by decide) dX3_sum_71 ?_
      refine J_goto (tgt := 76) dX3_sum_72 (by decide) ?_
      refine J_istore (loc' := [some (vR (some 31)), some (vI y1), some (vI y2), some (vI y3), some (vI y4), some (vI y5), some (vI y6), some (vI 1)]) (by decide) rfl dX3_sum_76 ?_
      exact J_forget (loc' := [some (vR (some 31)), some (vI y1), some (vI y2), some (vI y3), some (vI y4), some (vI y5), some (vI y6), some (vI 1)]) (And.intro (Or.inr rfl) (And.intro (Or.inr rfl) (And.intro (Or.inr rfl) (And.intro (Or.inr rfl) (And.intro (Or.inr rfl) (And.intro (Or.inr rfl) (And.intro (Or.inr rfl) (And.intro (Or.inr rfl) True.intro)))))))) K
    · replace K := K.2 c
      refine J_iload rfl dX3_sum_64 ?_
      refine J_bipush (by decide) (by decide) dX3_sum_66 ?_
      refine J_icmp_ne (tgt := 75) dX3_sum_68 (by decide) (fun c => ?_) (fun c => ?_)
      · replace K := K.2 c
        refine J_iconst (by decide) dX3_sum_75 ?_
        refine J_istore (loc' := [some (vR (some 31)), some (vI y1), some (vI y2), some (vI y3), some (vI y4), some (vI y5), some (vI y6), some (vI 0)]) (by decide) rfl dX3_sum_76 ?_
        exact J_forget (loc' := [some (vR (some 31)), some (vI y1), some (vI y2), some (vI y3), some (vI y4), some (vI y5), some (vI y6), some (vI 0)]) (And.intro (Or.inr rfl) (And.intro (Or.inr rfl) (And.intro (Or.inr rfl) (And.intro (Or.inr rfl) (And.intro (Or.inr rfl) (And.intro (Or.inr rfl) (And.intro (Or.inr rfl) (And.intro (Or.inr rfl) True.intro)))))))) K
      · replace K := K.1 c
        refine J_iconst (by decide) dX3_sum_71 ?_
        refine J_goto (tgt := 76) dX3_sum_72 (by decide) ?_
        refine J_istore (loc' := [some (vR (some 31)), some (vI y1), some (vI y2), some (vI y3), some (vI y4), some (vI y5), some (vI y6), some (vI 1)]) (by decide) rfl dX3_sum_76 ?_
        exact J_forget (loc' := [some (vR (some 31)), some (vI y1), some (vI y2), some (vI y3), some (vI y4), some (vI y5), some (vI y6), some (vI 1)]) (And.intro (Or.inr rfl) (And.intro (Or.inr rfl) (And.intro (Or.inr rfl) (And.intro (Or.inr rfl) (And.intro (Or.inr rfl) (And.intro (Or.inr rfl) (And.intro (Or.inr rfl) (And.intro (Or.inr rfl) True.intro)))))))) K
set_option maxRecDepth 20000 in
set_option maxHeartbeats 2000000 in
theorem l_X3_sum_78 {d b : Nat} {Q : Option AV → AH → Prop} {h : AH}  {y1 : Int} {y2 : Int} {y3 : Int} {y4 : Int} {y5 : Int} {y6 : Int} {y7 : Int}  (K : (y6 = 0 → (y7 = 0 → Lp_X3_sum_149 d b Q y2 y3 h) ∧ (¬(y7 = 0) → Lp_X3_sum_91 d b Q y1 y3 y4 y5 y6 y7 h)) ∧ (¬(y6 = 0) → Lp_X3_sum_91 d b Q y1 y3 y4 y5 y6 y7 h)) : Lp_X3_sum_78 d b Q y1 y2 y3 y4 y5 y6 y7 h := by
  unfold Lp_X3_sum_78
  refine J_iload rfl dX3_sum_78 ?_
  refine J_if_ne (tgt := 91) dX3_sum_80 (by decide) (fun c => ?_) (fun c => ?_)
  · replace K := K.2 c
    exact J_forget (loc' := [some (vR (some 31)), some (vI y1), none, some (vI y3), some (vI y4), some (vI y5), some (vI y6), some (vI y7)]) (And.intro (Or.inr rfl) (And.intro (Or.inr rfl) (And.intro (Or.inl rfl) (And.intro (Or.inr rfl) (And.intro (Or.inr rfl) (And.intro (Or.inr rfl) (And.intro (Or.inr rfl) (And.intro (Or.inr rfl) True.intro)))))))) K
  · replace K := K.1 c
    refine J_iload rfl dX3_sum_83 ?_
    refine J_if_ne (tgt := 91) dX3_sum_85 (by decide) (fun c => ?_) (fun c => ?_)
    · replace K := K.2 c
      exact J_forget (loc' := [some (vR (some 31)), some (vI y1), none, some (vI y3), some (vI y4), some (vI y5), some (vI y6), some (vI y7)]) (And.intro (Or.inr rfl) (And.intro (Or.inr rfl) (And.intro (Or.inl rfl) (And.intro (Or.inr rfl) (And.intro (Or.inr rfl) (And.intro (Or.inr rfl) (And.intro (Or.inr rfl) (And.intro (Or.inr rfl) True.intro)))))))) K
    · replace K := K.1 c
      refine J_goto (tgt := 149) dX3_sum_88 (by decide) ?_
      exact J_forget (loc' := [some (vR (some 31)), none, some (vI y2), some (vI y3), none, none, none, none]) (And.intro (Or.inr rfl) (And.intro (Or.inl rfl) (And.intro (Or.inr rfl) (And.intro (Or.inr rfl) (And.intro (Or.inl rfl) (And.intro (Or.inl rfl) (And.intro (Or.inl rfl) (And.intro (Or.inl rfl) True.intro)))))))) K
set_option maxRecDepth 20000 in
set_option maxHeartbeats 2000000 in
theorem l_X3_sum_91 {d b : Nat} {Q : Option AV → AH → Prop} {h : AH}  {y1 : Int} {y3 : Int} {y4 : Int} {y5 : Int} {y6 : Int} {y7 : Int}  (K : (0 ≤ gi h 31 4 ∧ gi h 31 4 ≤ 400 ∧ gi h 31 3 ≤ 401) ∧ ∀ h1, h1 = advX h → (y6 = 0 → Lp_X3_sum_114 d b Q y1 y3 y4 y5 y6 y7 h1) ∧ (¬(y6 = 0) → (y3 = (-1) → Lp_X3_sum_114 d b Q y1 y3 y4 y5 y6 y7 h1) ∧ (¬(y3 = (-1)) → (0 ≤ gi h1 35 2 ∧ gi h1 35 2 ≤ 872) ∧ ∀ h2, h2 = addX h1 y3 0 → Lp_X3_sum_114 d b Q y1 y3 y4 y5 y6 y7 h2))) : Lp_X3_sum_91 d b Q y1 y3 y4 y5 y6 y7 h := by
  unfold Lp_X3_sum_91
  refine J_aload_n rfl dX3_sum_91 ?_
  refine J_b0 (J_callV (b1 := 0) (ci := 3) (vs := []) (rest := []) (Or.inl rfl) ml_RX3_67 rfl (by decide) rfl rfl (Or.inl rfl) (Nat.le_of_ble_eq_true rfl) rfl dX3_sum_92 (c_X3_advance  K.1 ?_))
  replace K := K.2
  replace K := K _ rfl
  show J _ _ _ _ _ _ _ [] _
  refine J_iload rfl dX3_sum_95 ?_
  refine J_if_eq (tgt := 114) dX3_sum_97 (by decide) (fun c => ?_) (fun c => ?_)
  · replace K := K.1 c
    exact J_forget (loc' := [some (vR (some 31)), some (vI y1), none, some (vI y3), some (vI y4), some (vI y5), some (vI y6), some (vI y7)]) (And.intro (Or.inr rfl) (And.intro (Or.inr rfl) (And.intro (Or.inl rfl) (And.intro (Or.inr rfl) (And.intro (Or.inr rfl) (And.intro (Or.inr rfl) (And.intro (Or.inr rfl) (And.intro (Or.inr rfl) True.intro)))))))) K
  · replace K := K.2 c
    refine J_iload_n rfl dX3_sum_100 ?_
    refine J_iconst (by decide) dX3_sum_101 ?_
    refine J_icmp_eq (tgt := 114) dX3_sum_102 (by decide) (fun c => ?_) (fun c => ?_)
    · replace K := K.1 c
      exact J_forget (loc' := [some (vR (some 31)), some (vI y1), none, some (vI y3), some (vI y4), some (vI y5), some (vI y6), some (vI y7)]) (And.intro (Or.inr rfl) (And.intro (Or.inr rfl) (And.intro (Or.inl rfl) (And.intro (Or.inr rfl) (And.intro (Or.inr rfl) (And.intro (Or.inr rfl) (And.intro (Or.inr rfl) (And.intro (Or.inr rfl) True.intro)))))))) K
    · replace K := K.2 c
      refine J_aload_n rfl dX3_sum_105 ?_
      refine J_getS (r := 35) fl_RX3_46 rfl (Or.inl rfl) rfl dX3_sum_106 ?_
      refine J_iload_n rfl dX3_sum_109 ?_
      refine J_iconst (by decide) dX3_sum_110 ?_
      refine J_b0 (J_callV (b1 := 0) (ci := 5) (vs := [vI y3, vI 0]) (rest := []) (Or.inr rfl) ml_RX3_137 rfl (by decide) rfl rfl (Or.inl rfl) (Nat.le_of_ble_eq_true rfl) rfl dX3_sum_111 (c_X5_add  K.1 ?_))
      replace K := K.2
      replace K := K _ rfl
      show J _ _ _ _ _ _ _ [] _
      exact J_forget (loc' := [some (vR (some 31)), some (vI y1), none, some (vI y3), some (vI y4), some (vI y5), some (vI y6), some (vI y7)]) (And.intro (Or.inr rfl) (And.intro (Or.inr rfl) (And.intro (Or.inl rfl) (And.intro (Or.inr rfl) (And.intro (Or.inr rfl) (And.intro (Or.inr rfl) (And.intro (Or.inr rfl) (And.intro (Or.inr rfl) True.intro)))))))) K
set_option maxRecDepth 20000 in
set_option maxHeartbeats 2000000 in
theorem l_X3_sum_114 {d b : Nat} {Q : Option AV → AH → Prop} {h : AH}  {y1 : Int} {y3 : Int} {y4 : Int} {y5 : Int} {y6 : Int} {y7 : Int}  (K : (y6 = 0 → Lp_X3_sum_122 d b Q y1 y3 y4 y5 y7 h) ∧ (¬(y6 = 0) → Lp_X3_sum_122 d b Q y1 y5 y4 y5 y7 h)) : Lp_X3_sum_114 d b Q y1 y3 y4 y5 y6 y7 h := by
  unfold Lp_X3_sum_114
  refine J_iload rfl dX3_sum_114 ?_
  refine J_if_eq (tgt := 122) dX3_sum_116 (by decide) (fun c => ?_) (fun c => ?_)
  · replace K := K.1 c
    exact J_forget (loc' := [some (vR (some 31)), some (vI y1), none, some (vI y3), some (vI y4), some (vI y5), none, some (vI y7)]) (And.intro (Or.inr rfl) (And.intro (Or.inr rfl) (And.intro (Or.inl rfl) (And.intro (Or.inr rfl) (And.intro (Or.inr rfl) (And.intro (Or.inr rfl) (And.intro (Or.inl rfl) (And.intro (Or.inr rfl) True.intro)))))))) K
  · replace K := K.2 c
    refine J_iload rfl dX3_sum_119 ?_
    refine J_istore_n (loc' := [some (vR (some 31)), some (vI y1), none, some (vI y5), some (vI y4), some (vI y5), some (vI y6), some (vI y7)]) (by decide) rfl dX3_sum_121 ?_
    exact J_forget (loc' := [some (vR (some 31)), some (vI y1), none, some (vI y5), some (vI y4), some (vI y5), none, some (vI y7)]) (And.intro (Or.inr rfl) (And.intro (Or.inr rfl) (And.intro (Or.inl rfl) (And.intro (Or.inr rfl) (And.intro (Or.inr rfl) (And.intro (Or.inr rfl) (And.intro (Or.inl rfl) (And.intro (Or.inr rfl) True.intro)))))))) K
set_option maxRecDepth 20000 in
set_option maxHeartbeats 2000000 in
theorem l_X3_sum_122 {d b : Nat} {Q : Option AV → AH → Prop} {h : AH}  {y1 : Int} {y3 : Int} {y4 : Int} {y5 : Int} {y7 : Int}  (K : WM GX d 0 mX3_part [vR (some 31), vI y1] h (fun r h1 => ∃ u2, r = some (vI u2) ∧ Lp_X3_sum_128 d b Q y1 u2 y3 y4 y5 y7 h1)) : Lp_X3_sum_122 d b Q y1 y3 y4 y5 y7 h := by
  unfold Lp_X3_sum_122
  refine J_aload_n rfl dX3_sum_122 ?_
  refine J_iload_n rfl dX3_sum_123 ?_
  refine J_b0 (J_callV (b1 := 0) (ci := 3) (vs := [vI y1]) (rest := []) (Or.inl rfl) ml_RX3_149 rfl (by decide) rfl rfl (Or.inl rfl) (Nat.le_of_ble_eq_true rfl) rfl dX3_sum_124 (WM_mono K (fun r h1 K => ?_)))
  obtain ⟨u2, rfl, K⟩ := K
  show J _ _ _ _ _ _ _ [vI u2] _
  refine J_istore_n (loc' := [some (vR (some 31)), some (vI y1), some (vI u2), some (vI y3), some (vI y4), some (vI y5), none, some (vI y7)]) (by decide) rfl dX3_sum_127 ?_
  exact J_forget (loc' := [some (vR (some 31)), some (vI y1), some (vI u2), some (vI y3), some (vI y4), some (vI y5), none, some (vI y7)]) (And.intro (Or.inr rfl) (And.intro (Or.inr rfl) (And.intro (Or.inr rfl) (And.intro (Or.inr rfl) (And.intro (Or.inr rfl) (And.intro (Or.inr rfl) (And.intro (Or.inl rfl) (And.intro (Or.inr rfl) True.intro)))))))) K
set_option maxRecDepth 20000 in
set_option maxHeartbeats 2000000 in
theorem l_X3_sum_128 {d b : Nat} {Q : Option AV → AH → Prop} {h : AH}  {y1 : Int} {y2 : Int} {y3 : Int} {y4 : Int} {y5 : Int} {y7 : Int}  (K : (y7 = 0 → Lp_X3_sum_143 d b Q y1 y2 y3 y4 h) ∧ (¬(y7 = 0) → (0 ≤ gi h 35 2 ∧ gi h 35 2 ≤ 872) ∧ ∀ h1, h1 = addX h y5 0 → Lp_X3_sum_143 d b Q y1 y2 y3 y4 h1)) : Lp_X3_sum_128 d b Q y1 y2 y3 y4 y5 y7 h := by
  unfold Lp_X3_sum_128
  refine J_iload rfl dX3_sum_128 ?_
  refine J_if_eq (tgt := 143) dX3_sum_130 (by decide) (fun c => ?_) (fun c => ?_)
  · replace K := K.1 c
    exact J_forget (loc' := [some (vR (some 31)), some (vI y1), some (vI y2), some (vI y3), some (vI y4), none, none, none]) (And.intro (Or.inr rfl) (And.intro (Or.inr rfl) (And.intro (Or.inr rfl) (And.intro (Or.inr rfl) (And.intro (Or.inr rfl) (And.intro (Or.inl rfl) (And.intro (Or.inl rfl) (And.intro (Or.inl rfl) True.intro)))))))) K
  · replace K := K.2 c
    refine J_aload_n rfl dX3_sum_133 ?_
    refine J_getS (r := 35) fl_RX3_46 rfl (Or.inl rfl) rfl dX3_sum_134 ?_
    refine J_iload rfl dX3_sum_137 ?_
    refine J_iconst (by decide) dX3_sum_139 ?_
    refine J_b0 (J_callV (b1 := 0) (ci := 5) (vs := [vI y5, vI 0]) (rest := []) (Or.inr rfl) ml_RX3_137 rfl (by decide) rfl rfl (Or.inl rfl) (Nat.le_of_ble_eq_true rfl) rfl dX3_sum_140 (c_X5_add  K.1 ?_))
    replace K := K.2
    replace K := K _ rfl
    show J _ _ _ _ _ _ _ [] _
    exact J_forget (loc' := [some (vR (some 31)), some (vI y1), some (vI y2), some (vI y3), some (vI y4), none, none, none]) (And.intro (Or.inr rfl) (And.intro (Or.inr rfl) (And.intro (Or.inr rfl) (And.intro (Or.inr rfl) (And.intro (Or.inr rfl) (And.intro (Or.inl rfl) (And.intro (Or.inl rfl) (And.intro (Or.inl rfl) True.intro)))))))) K
set_option maxRecDepth 20000 in
set_option maxHeartbeats 2000000 in
theorem l_X3_sum_143 {d b : Nat} {Q : Option AV → AH → Prop} {h : AH}  {y1 : Int} {y2 : Int} {y3 : Int} {y4 : Int}  (K : R32 (y4 + 1) ∧ Lp_X3_sum_11 d b Q y1 y2 y3 (y4 + 1) h) : Lp_X3_sum_143 d b Q y1 y2 y3 y4 h := by
  unfold Lp_X3_sum_143
  refine J_iinc (loc' := [some (vR (some 31)), some (vI y1), some (vI y2), some (vI y3), some (vI (y4 + 1)), none, none, none]) (by decide) rfl K.1 rfl dX3_sum_143 ?_
  replace K := K.2
  refine J_goto (tgt := 11) dX3_sum_146 (by decide) ?_
  exact J_forget (loc' := [some (vR (some 31)), some (vI y1), some (vI y2), some (vI y3), some (vI (y4 + 1)), none, none, none]) (And.intro (Or.inr rfl) (And.intro (Or.inr rfl) (And.intro (Or.inr rfl) (And.intro (Or.inr rfl) (And.intro (Or.inr rfl) (And.intro (Or.inl rfl) (And.intro (Or.inl rfl) (And.intro (Or.inl rfl) True.intro)))))))) K
set_option maxRecDepth 20000 in
set_option maxHeartbeats 2000000 in
theorem w_X3_sum {d b : Nat} {Q : Option AV → AH → Prop} {h : AH} {x1 : Int}  (K : WM GX d 0 mX3_part [vR (some 31), vI x1] h (fun r h1 => ∃ u1, r = some (vI u1) ∧ Lp_X3_sum_11 d b Q x1 u1 (-1) 0 h1)) : WM GX (d + 1) b mX3_sum [vR (some 31), vI x1] h Q := by
  refine WM_introE (loc' := [some (vR (some 31)), some (vI x1), none, none, none, none, none, none]) rfl (by decide) (Nat.le_of_ble_eq_true rfl) ?_
  refine J_aload_n rfl dX3_sum_0 ?_
  refine J_iload_n rfl dX3_sum_1 ?_
  refine J_b0 (J_callV (b1 := 0) (ci := 3) (vs := [vI x1]) (rest := []) (Or.inl rfl) ml_RX3_149 rfl (by decide) rfl rfl (Or.inl rfl) (Nat.le_of_ble_eq_true rfl) rfl dX3_sum_2 (WM_mono K (fun r h1 K => ?_)))
  obtain ⟨u1, rfl, K⟩ := K
  show J _ _ _ _ _ _ _ [vI u1] _
  refine J_istore_n (loc' := [some (vR (some 31)), some (vI x1), some (vI u1), none, none, none, none, none]) (by decide) rfl dX3_sum_5 ?_
  refine J_iconst (by decide) dX3_sum_6 ?_
  refine J_istore_n (loc' := [some (vR (some 31)), some (vI x1), some (vI u1), some (vI (-1)), none, none, none, none]) (by decide) rfl dX3_sum_7 ?_
  refine J_iconst (by decide) dX3_sum_8 ?_
  refine J_istore (loc' := [some (vR (some 31)), some (vI x1), some (vI u1), some (vI (-1)), some (vI 0), none, none, none]) (by decide) rfl dX3_sum_9 ?_
  exact J_forget (loc' := [some (vR (some 31)), some (vI x1), some (vI u1), some (vI (-1)), some (vI 0), none, none, none]) (And.intro (Or.inr rfl) (And.intro (Or.inr rfl) (And.intro (Or.inr rfl) (And.intro (Or.inr rfl) (And.intro (Or.inr rfl) (And.intro (Or.inl rfl) (And.intro (Or.inl rfl) (And.intro (Or.inl rfl) True.intro)))))))) K
def Lp_X3_plain_4 (d b : Nat) (Q : Option AV → AH → Prop)  (y1 : Int) (y2 : Int) (y3 : Int) (h : AH) : Prop := J GX (d + 1) b mX3_plain Q 4 [some (vR (some 31)), some (vI y1), some (vI y2), some (vI y3)] [] h
def Lp_X3_plain_44 (d b : Nat) (Q : Option AV → AH → Prop)  (y1 : Int) (y2 : Int) (h : AH) : Prop := J GX (d + 1) b mX3_plain Q 44 [some (vR (some 31)), some (vI y1), some (vI y2), none] [] h
def Lp_X3_plain_128 (d b : Nat) (Q : Option AV → AH → Prop)  (y1 : Int) (y2 : Int) (y3 : Int) (h : AH) : Prop := J GX (d + 1) b mX3_plain Q 128 [some (vR (some 31)), some (vI y1), some (vI y2), some (vI y3)] [] h
def Lp_X3_plain_151 (d b : Nat) (Q : Option AV → AH → Prop)  (y2 : Int) (h : AH) : Prop := J GX (d + 1) b mX3_plain Q 151 [some (vR (some 31)), none, some (vI y2), none] [] h
set_option maxRecDepth 20000 in
set_option maxHeartbeats 2000000 in
theorem l_X3_plain_4 {d b : Nat} {Q : Option AV → AH → Prop} {h : AH}  {y1 : Int} {y2 : Int} {y3 : Int}  (K : (400 ≤ y3 → Lp_X3_plain_44 d b Q y1 y2 h) ∧ (¬(400 ≤ y3) → R32 ((gi h 31 5) - 258) ∧ ((gi h 31 5) - 258 = 29 → (y2 = 0 → (0 ≤ gi h 31 4 ∧ gi h 31 4 ≤ 400 ∧ gi h 31 3 ≤ 401) ∧ ∀ h2, h2 = advX h → R32 (y3 + 1) ∧ Lp_X3_plain_4 d b Q y1 1 (y3 + 1) h2) ∧ (¬(y2 = 0) → (0 ≤ gi h 31 4 ∧ gi h 31 4 ≤ 400 ∧ gi h 31 3 ≤ 401) ∧ ∀ h1, h1 = advX h → R32 (y3 + 1) ∧ Lp_X3_plain_4 d b Q y1 0 (y3 + 1) h1)) ∧ (¬((gi h 31 5) - 258 = 29) → Lp_X3_plain_44 d b Q y1 y2 h))) : Lp_X3_plain_4 d b Q y1 y2 y3 h := by
  unfold Lp_X3_plain_4
  refine J_iload_n rfl dX3_plain_4 ?_
  refine J_sipush (by decide) (by decide) dX3_plain_5 ?_
  refine J_icmp_ge (tgt := 44) dX3_plain_8 (by decide) (fun c => ?_) (fun c => ?_)
  · replace K := K.1 c
    exact J_forget (loc' := [some (vR (some 31)), some (vI y1), some (vI y2), none]) (And.intro (Or.inr rfl) (And.intro (Or.inr rfl) (And.intro (Or.inr rfl) (And.intro (Or.inl rfl) True.intro)))) K
  · replace K := K.2 c
    refine J_aload_n rfl dX3_plain_11 ?_
    refine J_getI fl_RX3_28 rfl (Or.inl rfl) dX3_plain_12 ?_
    refine J_sipush (by decide) (by decide) dX3_plain_15 ?_
    refine J_isub K.1 dX3_plain_18 ?_
    replace K := K.2
    refine J_bipush (by decide) (by decide) dX3_plain_19 ?_
    refine J_icmp_ne (tgt := 44) dX3_plain_21 (by decide) (fun c => ?_) (fun c => ?_)
    · replace K := K.2 c
      exact J_forget (loc' := [some (vR (some 31)), some (vI y1), some (vI y2), none]) (And.intro (Or.inr rfl) (And.intro (Or.inr rfl) (And.intro (Or.inr rfl) (And.intro (Or.inl rfl) True.intro)))) K
    · replace K := K.1 c
      refine J_iload_n rfl dX3_plain_24 ?_
      refine J_if_ne (tgt := 32) dX3_plain_25 (by decide) (fun c => ?_) (fun c => ?_)
      · replace K := K.2 c
        refine J_iconst (by decide) dX3_plain_32 ?_
        refine J_istore_n (loc' := [some (vR (some 31)), some (vI y1), some (vI 0), some (vI y3)]) (by decide) rfl dX3_plain_33 ?_
        refine J_aload_n rfl dX3_plain_34 ?_
        refine J_b0 (J_callV (b1 := 0) (ci := 3) (vs := []) (rest := []) (Or.inl rfl) ml_RX3_67 rfl (by decide) rfl rfl (Or.inl rfl) (Nat.le_of_ble_eq_true rfl) rfl dX3_plain_35 (c_X3_advance  K.1 ?_))
        replace K := K.2
        replace K := K _ rfl
        show J _ _ _ _ _ _ _ [] _
        refine J_iinc (loc' := [some (vR (some 31)), some (vI y1), some (vI 0), some (vI (y3 + 1))]) (by decide) rfl K.1 rfl dX3_plain_38 ?_
        replace K := K.2
        refine J_goto (tgt := 4) dX3_plain_41 (by decide) ?_
        exact J_forget (loc' := [some (vR (some 31)), some (vI y1), some (vI 0), some (vI (y3 + 1))]) (And.intro (Or.inr rfl) (And.intro (Or.inr rfl) (And.intro (Or.inr rfl) (And.intro (Or.inr rfl) True.intro)))) K
      · replace K := K.1 c
        refine J_iconst (by decide) dX3_plain_28 ?_
        refine J_goto (tgt := 33) dX3_plain_29 (by decide) ?_
        refine J_istore_n (loc' := [some (vR (some 31)), some (vI y1), some (vI 1), some (vI y3)]) (by decide) rfl dX3_plain_33 ?_
        refine J_aload_n rfl dX3_plain_34 ?_
        refine J_b0 (J_callV (b1 := 0) (ci := 3) (vs := []) (rest := []) (Or.inl rfl) ml_RX3_67 rfl (by decide) rfl rfl (Or.inl rfl) (Nat.le_of_ble_eq_true rfl) rfl dX3_plain_35 (c_X3_advance  K.1 ?_))
        replace K := K.2
        replace K := K _ rfl
        show J _ _ _ _ _ _ _ [] _
        refine J_iinc (loc' := [some (vR (some 31)), some (vI y1), some (vI 1), some (vI (y3 + 1))]) (by decide) rfl K.1 rfl dX3_plain_38 ?_
        replace K := K.2
        refine J_goto (tgt := 4) dX3_plain_41 (by decide) ?_
        exact J_forget (loc' := [some (vR (some 31)), some (vI y1), some (vI 1), some (vI (y3 + 1))]) (And.intro (Or.inr rfl) (And.intro (Or.inr rfl) (And.intro (Or.inr rfl) (And.intro (Or.inr rfl) True.intro)))) K
set_option maxRecDepth 20000 in
set_option maxHeartbeats 2000000 in
theorem l_X3_plain_44 {d b : Nat} {Q : Option AV → AH → Prop} {h : AH}  {y1 : Int} {y2 : Int}  (K : (gi h 31 5 = 40 → (y1 < 8 → (0 ≤ gi h 31 4 ∧ gi h 31 4 ≤ 400 ∧ gi h 31 3 ≤ 401) ∧ ∀ h2, h2 = advX h → R32 (y1 + 1) ∧ WM GX d 0 mX3_test [vR (some 31), vI (y1 + 1)] h2 (fun r h3 => ∃ u2, r = some (vI u2) ∧ (u2 = 0 → Q (some (vI 0)) h3) ∧ (¬(u2 = 0) → (gi h3 31 5 = 41 → (0 ≤ gi h3 31 4 ∧ gi h3 31 4 ≤ 400 ∧ gi h3 31 3 ≤ 401) ∧ ∀ h4, h4 = advX h3 → Lp_X3_plain_151 d b Q y2 h4) ∧ (¬(gi h3 31 5 = 41) → Q (some (vI 0)) h3)))) ∧ (¬(y1 < 8) → Q (some (vI 0)) h)) ∧ (¬(gi h 31 5 = 40) → WM GX d 0 mX3_sum [vR (some 31), vI y1] h (fun r h1 => ∃ u1, r = some (vI u1) ∧ (u1 = 0 → Q (some (vI 0)) h1) ∧ (¬(u1 = 0) → (gi h1 31 5 = 60 → Lp_X3_plain_128 d b Q y1 y2 (gi h1 31 5) h1) ∧ (¬(gi h1 31 5 = 60) → (gi h1 31 5 = 62 → Lp_X3_plain_128 d b Q y1 y2 (gi h1 31 5) h1) ∧ (¬(gi h1 31 5 = 62) → (gi h1 31 5 = 61 → Lp_X3_plain_128 d b Q y1 y2 (gi h1 31 5) h1) ∧ (¬(gi h1 31 5 = 61) → Q (some (vI 0)) h1))))))) : Lp_X3_plain_44 d b Q y1 y2 h := by
  unfold Lp_X3_plain_44
  refine J_aload_n rfl dX3_plain_44 ?_
  refine J_getI fl_RX3_28 rfl (Or.inl rfl) dX3_plain_45 ?_
  refine J_bipush (by decide) (by decide) dX3_plain_48 ?_
  refine J_icmp_ne (tgt := 93) dX3_plain_50 (by decide) (fun c => ?_) (fun c => ?_)
  · replace K := K.2 c
    refine J_aload_n rfl dX3_plain_93 ?_
    refine J_iload_n rfl dX3_plain_94 ?_
    refine J_b0 (J_callV (b1 := 0) (ci := 3) (vs := [vI y1]) (rest := []) (Or.inl rfl) ml_RX3_140 rfl (by decide) rfl rfl (Or.inl rfl) (Nat.le_of_ble_eq_true rfl) rfl dX3_plain_95 (WM_mono K (fun r h1 K => ?_)))
    obtain ⟨u1, rfl, K⟩ := K
    show J _ _ _ _ _ _ _ [vI u1] _
    refine J_if_ne (tgt := 103) dX3_plain_98 (by decide) (fun c => ?_) (fun c => ?_)
    · replace K := K.2 c
      refine J_aload_n rfl dX3_plain_103 ?_
      refine J_getI fl_RX3_28 rfl (Or.inl rfl) dX3_plain_104 ?_
      refine J_istore_n (loc' := [some (vR (some 31)), some (vI y1), some (vI y2), some (vI _)]) (by decide) rfl dX3_plain_107 ?_
      refine J_iload_n rfl dX3_plain_108 ?_
      refine J_bipush (by decide) (by decide) dX3_plain_109 ?_
      refine J_icmp_eq (tgt := 128) dX3_plain_111 (by decide) (fun c => ?_) (fun c => ?_)
      · replace K := K.1 c
        exact J_forget (loc' := [some (vR (some 31)), some (vI y1), some (vI y2), some (vI _)]) (And.intro (Or.inr rfl) (And.intro (Or.inr rfl) (And.intro (Or.inr rfl) (And.intro (Or.inr rfl) True.intro)))) K
      · replace K := K.2 c
        refine J_iload_n rfl dX3_plain_114 ?_
        refine J_bipush (by decide) (by decide) dX3_plain_115 ?_
        refine J_icmp_eq (tgt := 128) dX3_plain_117 (by decide) (fun c => ?_) (fun c => ?_)
        · replace K := K.1 c
          exact J_forget (loc' := [some (vR (some 31)), some (vI y1), some (vI y2), some (vI _)]) (And.intro (Or.inr rfl) (And.intro (Or.inr rfl) (And.intro (Or.inr rfl) (And.intro (Or.inr rfl) True.intro)))) K
        · replace K := K.2 c
          refine J_iload_n rfl dX3_plain_120 ?_
          refine J_bipush (by decide) (by decide) dX3_plain_121 ?_
          refine J_icmp_eq (tgt := 128) dX3_plain_123 (by decide) (fun c => ?_) (fun c => ?_)
          · replace K := K.1 c
            exact J_forget (loc' := [some (vR (some 31)), some (vI y1), some (vI y2), some (vI _)]) (And.intro (Or.inr rfl) (And.intro (Or.inr rfl) (And.intro (Or.inr rfl) (And.intro (Or.inr rfl) True.intro)))) K
          · replace K := K.2 c
            refine J_iconst (by decide) dX3_plain_126 ?_
            exact J_zreturn ⟨rfl, by decide⟩ dX3_plain_127 K
    · replace K := K.1 c
      refine J_iconst (by decide) dX3_plain_101 ?_
      exact J_zreturn ⟨rfl, by decide⟩ dX3_plain_102 K
  · replace K := K.1 c
    refine J_iload_n rfl dX3_plain_53 ?_
    refine J_bipush (by decide) (by decide) dX3_plain_54 ?_
    refine J_icmp_lt (tgt := 61) dX3_plain_56 (by decide) (fun c => ?_) (fun c => ?_)
    · replace K := K.1 c
      refine J_aload_n rfl dX3_plain_61 ?_
      refine J_b0 (J_callV (b1 := 0) (ci := 3) (vs := []) (rest := []) (Or.inl rfl) ml_RX3_67 rfl (by decide) rfl rfl (Or.inl rfl) (Nat.le_of_ble_eq_true rfl) rfl dX3_plain_62 (c_X3_advance  K.1 ?_))
      replace K := K.2
      replace K := K _ rfl
      show J _ _ _ _ _ _ _ [] _
      refine J_aload_n rfl dX3_plain_65 ?_
      refine J_iload_n rfl dX3_plain_66 ?_
      refine J_iconst (by decide) dX3_plain_67 ?_
      refine J_iadd K.1 dX3_plain_68 ?_
      replace K := K.2
      refine J_b0 (J_callV (b1 := 0) (ci := 3) (vs := [vI (y1 + 1)]) (rest := []) (Or.inl rfl) ml_RX3_134 rfl (by decide) rfl rfl (Or.inl rfl) (Nat.le_of_ble_eq_true rfl) rfl dX3_plain_69 (WM_mono K (fun r h3 K => ?_)))
      obtain ⟨u2, rfl, K⟩ := K
      show J _ _ _ _ _ _ _ [vI u2] _
      refine J_if_eq (tgt := 84) dX3_plain_72 (by decide) (fun c => ?_) (fun c => ?_)
      · replace K := K.1 c
        refine J_iconst (by decide) dX3_plain_84 ?_
        exact J_zreturn ⟨rfl, by decide⟩ dX3_plain_85 K
      · replace K := K.2 c
        refine J_aload_n rfl dX3_plain_75 ?_
        refine J_getI fl_RX3_28 rfl (Or.inl rfl) dX3_plain_76 ?_
        refine J_bipush (by decide) (by decide) dX3_plain_79 ?_
        refine J_icmp_eq (tgt := 86) dX3_plain_81 (by decide) (fun c => ?_) (fun c => ?_)
        · replace K := K.1 c
          refine J_aload_n rfl dX3_plain_86 ?_
          refine J_b0 (J_callV (b1 := 0) (ci := 3) (vs := []) (rest := []) (Or.inl rfl) ml_RX3_67 rfl (by decide) rfl rfl (Or.inl rfl) (Nat.le_of_ble_eq_true rfl) rfl dX3_plain_87 (c_X3_advance  K.1 ?_))
          replace K := K.2
          replace K := K _ rfl
          show J _ _ _ _ _ _ _ [] _
          refine J_goto (tgt := 151) dX3_plain_90 (by decide) ?_
          exact J_forget (loc' := [some (vR (some 31)), none, some (vI y2), none]) (And.intro (Or.inr rfl) (And.intro (Or.inl rfl) (And.intro (Or.inr rfl) (And.intro (Or.inl rfl) True.intro)))) K
        · replace K := K.2 c
          refine J_iconst (by decide) dX3_plain_84 ?_
          exact J_zreturn ⟨rfl, by decide⟩ dX3_plain_85 K
    · replace K := K.2 c
      refine J_iconst (by decide) dX3_plain_59 ?_
      exact J_zreturn ⟨rfl, by decide⟩ dX3_plain_60 K
set_option maxRecDepth 20000 in
set_option maxHeartbeats 2000000 in
theorem l_X3_plain_128 {d b : Nat} {Q : Option AV → AH → Prop} {h : AH}  {y1 : Int} {y2 : Int} {y3 : Int}  (K : (0 ≤ gi h 31 4 ∧ gi h 31 4 ≤ 400 ∧ gi h 31 3 ≤ 401) ∧ ∀ h1, h1 = advX h → WM GX d 0 mX3_sum [vR (some 31), vI y1] h1 (fun r h2 => ∃ u3, r = some (vI u3) ∧ (u3 = 0 → Q (some (vI 0)) h2) ∧ (¬(u3 = 0) → (0 ≤ gi h2 35 2 ∧ gi h2 35 2 ≤ 872) ∧ ∀ h3, h3 = addX h2 y3 0 → Lp_X3_plain_151 d b Q y2 h3))) : Lp_X3_plain_128 d b Q y1 y2 y3 h := by
  unfold Lp_X3_plain_128
  refine J_aload_n rfl dX3_plain_128 ?_
  refine J_b0 (J_callV (b1 := 0) (ci := 3) (vs := []) (rest := []) (Or.inl rfl) ml_RX3_67 rfl (by decide) rfl rfl (Or.inl rfl) (Nat.le_of_ble_eq_true rfl) rfl dX3_plain_129 (c_X3_advance  K.1 ?_))
  replace K := K.2
  replace K := K _ rfl
  show J _ _ _ _ _ _ _ [] _
  refine J_aload_n rfl dX3_plain_132 ?_
  refine J_iload_n rfl dX3_plain_133 ?_
  refine J_b0 (J_callV (b1 := 0) (ci := 3) (vs := [vI y1]) (rest := []) (Or.inl rfl) ml_RX3_140 rfl (by decide) rfl rfl (Or.inl rfl) (Nat.le_of_ble_eq_true rfl) rfl dX3_plain_134 (WM_mono K (fun r h2 K => ?_)))
  obtain ⟨u3, rfl, K⟩ := K
  show J _ _ _ _ _ _ _ [vI u3] _
  refine J_if_ne (tgt := 142) dX3_plain_137 (by decide) (fun c => ?_) (fun c => ?_)
  · replace K := K.2 c
    refine J_aload_n rfl dX3_plain_142 ?_
    refine J_getS (r := 35) fl_RX3_46 rfl (Or.inl rfl) rfl dX3_plain_143 ?_
    refine J_iload_n rfl dX3_plain_146 ?_
    refine J_iconst (by decide) dX3_plain_147 ?_
    refine J_b0 (J_callV (b1 := 0) (ci := 5) (vs := [vI y3, vI 0]) (rest := []) (Or.inr rfl) ml_RX3_137 rfl (by decide) rfl rfl (Or.inl rfl) (Nat.le_of_ble_eq_true rfl) rfl dX3_plain_148 (c_X5_add  K.1 ?_))
    replace K := K.2
    replace K := K _ rfl
    show J _ _ _ _ _ _ _ [] _
    exact J_forget (loc' := [some (vR (some 31)), none, some (vI y2), none]) (And.intro (Or.inr rfl) (And.intro (Or.inl rfl) (And.intro (Or.inr rfl) (And.intro (Or.inl rfl) True.intro)))) K
  · replace K := K.1 c
    refine J_iconst (by decide) dX3_plain_140 ?_
    exact J_zreturn ⟨rfl, by decide⟩ dX3_plain_141 K
set_option maxRecDepth 20000 in
set_option maxHeartbeats 2000000 in
theorem l_X3_plain_151 {d b : Nat} {Q : Option AV → AH → Prop} {h : AH}  {y2 : Int}  (K : (y2 = 0 → Q (some (vI 1)) h) ∧ (¬(y2 = 0) → (0 ≤ gi h 35 2 ∧ gi h 35 2 ≤ 872) ∧ ∀ h1, h1 = addX h 3 0 → Q (some (vI 1)) h1)) : Lp_X3_plain_151 d b Q y2 h := by
  unfold Lp_X3_plain_151
  refine J_iload_n rfl dX3_plain_151 ?_
  refine J_if_eq (tgt := 164) dX3_plain_152 (by decide) (fun c => ?_) (fun c => ?_)
  · replace K := K.1 c
    refine J_iconst (by decide) dX3_plain_164 ?_
    exact J_zreturn ⟨rfl, by decide⟩ dX3_plain_165 K
  · replace K := K.2 c
    refine J_aload_n rfl dX3_plain_155 ?_
    refine J_getS (r := 35) fl_RX3_46 rfl (Or.inl rfl) rfl dX3_plain_156 ?_
    refine J_iconst (by decide) dX3_plain_159 ?_
    refine J_iconst (by decide) dX3_plain_160 ?_
    refine J_b0 (J_callV (b1 := 0) (ci := 5) (vs := [vI 3, vI 0]) (rest := []) (Or.inr rfl) ml_RX3_137 rfl (by decide) rfl rfl (Or.inl rfl) (Nat.le_of_ble_eq_true rfl) rfl dX3_plain_161 (c_X5_add  K.1 ?_))
    replace K := K.2
    replace K := K _ rfl
    show J _ _ _ _ _ _ _ [] _
    refine J_iconst (by decide) dX3_plain_164 ?_
    exact J_zreturn ⟨rfl, by decide⟩ dX3_plain_165 K
set_option maxRecDepth 20000 in
set_option maxHeartbeats 2000000 in
theorem w_X3_plain {d b : Nat} {Q : Option AV → AH → Prop} {h : AH} {x1 : Int}  (K : Lp_X3_plain_4 d b Q x1 0 0 h) : WM GX (d + 1) b mX3_plain [vR (some 31), vI x1] h Q := by
  refine WM_introE (loc' := [some (vR (some 31)), some (vI x1), none, none]) rfl (by decide) (Nat.le_of_ble_eq_true rfl) ?_
  refine J_iconst (by decide) dX3_plain_0 ?_
  refine J_istore_n (loc' := [some (vR (some 31)), some (vI x1), some (vI 0), none]) (by decide) rfl dX3_plain_1 ?_
  refine J_iconst (by decide) dX3_plain_2 ?_
  refine J_istore_n (loc' := [some (vR (some 31)), some (vI x1), some (vI 0), some (vI 0)]) (by decide) rfl dX3_plain_3 ?_
  exact J_forget (loc' := [some (vR (some 31)), some (vI x1), some (vI 0), some (vI 0)]) (And.intro (Or.inr rfl) (And.intro (Or.inr rfl) (And.intro (Or.inr rfl) (And.intro (Or.inr rfl) True.intro)))) K
def Lp_X3_test_11 (d b : Nat) (Q : Option AV → AH → Prop)  (y1 : Int) (y2 : Int) (y3 : Int) (y4 : Int) (h : AH) : Prop := J GX (d + 1) b mX3_test Q 11 [some (vR (some 31)), some (vI y1), some (vI y2), some (vI y3), some (vI y4), none, none] [] h
def Lp_X3_test_147 (d b : Nat) (Q : Option AV → AH → Prop)  (y2 : Int) (y3 : Int) (h : AH) : Prop := J GX (d + 1) b mX3_test Q 147 [some (vR (some 31)), none, some (vI y2), some (vI y3), none, none, none] [] h
def Lp_X3_test_69 (d b : Nat) (Q : Option AV → AH → Prop)  (y1 : Int) (y3 : Int) (y4 : Int) (y5 : Int) (h : AH) : Prop := J GX (d + 1) b mX3_test Q 69 [some (vR (some 31)), some (vI y1), none, some (vI y3), some (vI y4), some (vI y5), none] [] h
def Lp_X3_test_115 (d b : Nat) (Q : Option AV → AH → Prop)  (y1 : Int) (y3 : Int) (y4 : Int) (y5 : Int) (y6 : Int) (h : AH) : Prop := J GX (d + 1) b mX3_test Q 115 [some (vR (some 31)), some (vI y1), none, some (vI y3), some (vI y4), some (vI y5), some (vI y6)] [] h
def Lp_X3_test_121 (d b : Nat) (Q : Option AV → AH → Prop)  (y1 : Int) (y2 : Int) (y3 : Int) (y4 : Int) (y5 : Int) (y6 : Int) (h : AH) : Prop := J GX (d + 1) b mX3_test Q 121 [some (vR (some 31)), some (vI y1), some (vI y2), some (vI y3), some (vI y4), some (vI y5), some (vI y6)] [] h
def Lp_X3_test_141 (d b : Nat) (Q : Option AV → AH → Prop)  (y1 : Int) (y2 : Int) (y3 : Int) (y4 : Int) (h : AH) : Prop := J GX (d + 1) b mX3_test Q 141 [some (vR (some 31)), some (vI y1), some (vI y2), some (vI y3), some (vI y4), none, none] [] h
set_option maxRecDepth 20000 in
set_option maxHeartbeats 2000000 in
theorem l_X3_test_11 {d b : Nat} {Q : Option AV → AH → Prop} {h : AH}  {y1 : Int} {y2 : Int} {y3 : Int} {y4 : Int}  (K : (400 ≤ y4 → Lp_X3_test_147 d b Q y2 y3 h) ∧ (¬(400 ≤ y4) → (y2 = 0 → Lp_X3_test_147 d b Q y2 y3 h) ∧ (¬(y2 = 0) → R32 ((gi h 31 5) - 258) ∧ ((gi h 31 5) - 258 = 27 → R32 ((gi h 31 5) - 258) ∧ ((gi h 31 5) - 258 = 27 → Lp_X3_test_69 d b Q y1 y3 y4 1 h) ∧ (¬((gi h 31 5) - 258 = 27) → Lp_X3_test_69 d b Q y1 y3 y4 0 h)) ∧ (¬((gi h 31 5) - 258 = 27) → R32 ((gi h 31 5) - 258) ∧ ((gi h 31 5) - 258 = 28 → R32 ((gi h 31 5) - 258) ∧ ((gi h 31 5) - 258 = 27 → Lp_X3_test_69 d b Q y1 y3 y4 1 h) ∧ (¬((gi h 31 5) - 258 = 27) → Lp_X3_test_69 d b Q y1 y3 y4 0 h)) ∧ (¬((gi h 31 5) - 258 = 28) → Lp_X3_test_147 d b Q y2 y3 h))))) : Lp_X3_test_11 d b Q y1 y2 y3 y4 h := by
  unfold Lp_X3_test_11
  refine J_iload rfl dX3_test_11 ?_
  refine J_sipush (by decide) (by decide) dX3_test_13 ?_
  refine J_icmp_ge (tgt := 147) dX3_test_16 (by decide) (fun c => ?_) (fun c => ?_)
  · replace K := K.1 c
    exact J_forget (loc' := [some (vR (some 31)), none, some (vI y2), some (vI y3), none, none, none]) (And.intro (Or.inr rfl) (And.intro (Or.inl rfl) (And.intro (Or.inr rfl) (And.intro (Or.inr rfl) (And.intro (Or.inl rfl) (And.intro (Or.inl rfl) (And.intro (Or.inl rfl) True.intro))))))) K
  · replace K := K.2 c
    refine J_iload_n rfl dX3_test_19 ?_
    refine J_if_eq (tgt := 147) dX3_test_20 (by decide) (fun c => ?_) (fun c => ?_)
    · replace K := K.1 c
      exact J_forget (loc' := [some (vR (some 31)), none, some (vI y2), some (vI y3), none, none, none]) (And.intro (Or.inr rfl) (And.intro (Or.inl rfl) (And.intro (Or.inr rfl) (And.intro (Or.inr rfl) (And.intro (Or.inl rfl) (And.intro (Or.inl rfl) (And.intro (Or.inl rfl) True.intro))))))) K
    · replace K := K.2 c
      refine J_aload_n rfl dX3_test_23 ?_
      refine J_getI fl_RX3_28 rfl (Or.inl rfl) dX3_test_24 ?_
      refine J_sipush (by decide) (by decide) dX3_test_27 ?_
      refine J_isub K.1 dX3_test_30 ?_
      replace K := K.2
      refine J_bipush (by decide) (by decide) dX3_test_31 ?_
      refine J_icmp_eq (tgt := 49) dX3_test_33 (by decide) (fun c => ?_) (fun c => ?_)
      · replace K := K.1 c
        refine J_aload_n rfl dX3_test_49 ?_
        refine J_getI fl_RX3_28 rfl (Or.inl rfl) dX3_test_50 ?_
        refine J_sipush (by decide) (by decide) dX3_test_53 ?_
        refine J_isub K.1 dX3_test_56 ?_
        replace K := K.2
        refine J_bipush (by decide) (by decide) dX3_test_57 ?_
        refine J_icmp_ne (tgt := 66) dX3_test_59 (by decide) (fun c => ?_) (fun c => ?_)
        · replace K := K.2 c
          refine J_iconst (by decide) dX3_test_66 ?_
          refine J_istore (loc' := [some (vR (some 31)), some (vI y1), some (vI y2), some (vI y3), some (vI y4), some (vI 0), none]) (by decide) rfl dX3_test_67 ?_
          exact J_forget (loc' := [some (vR (some 31)), some (vI y1), none, some (vI y3), some (vI y4), some (vI 0), none]) (And.intro (Or.inr rfl) (And.intro (Or.inr rfl) (And.intro (Or.inl rfl) (And.intro (Or.inr rfl) (And.intro (Or.inr rfl) (And.intro (Or.inr rfl) (And.intro (Or.inl rfl) True.intro))))))) K
        · replace K := K.1 c
          refine J_iconst (by decide) dX3_test_62 ?_
          refine J_goto (tgt := 67) dX3_test_63 (by decide) ?_
          refine J_istore (loc' := [some (vR (some 31)), some (vI y1), some (vI y2), some (vI y3), some (vI y4), some (vI 1), none]) (by decide) rfl dX3_test_67 ?_
          exact J_forget (loc' := [some (vR (some 31)), some (vI y1), none, some (vI y3), some (vI y4), some (vI 1), none]) (And.intro (Or.inr rfl) (And.intro (Or.inr rfl) (And.intro (Or.inl rfl) (And.intro (Or.inr rfl) (And.intro (Or.inr rfl) (And.intro (Or.inr rfl) (And.intro (Or.inl rfl) True.intro))))))) K
      · replace K := K.2 c
        refine J_aload_n rfl dX3_test_36 ?_
        refine J_getI fl_RX3_28 rfl (Or.inl rfl) dX3_test_37 ?_
        refine J_sipush (by decide) (by decide) dX3_test_40 ?_
        refine J_isub K.1 dX3_test_43 ?_
        replace K := K.2
        refine J_bipush (by decide) (by decide) dX3_test_44 ?_
        refine J_icmp_ne (tgt := 147) dX3_test_46 (by decide) (fun c => ?_) (fun c => ?_)
        · replace K := K.2 c
          exact J_forget (loc' := [some (vR (some 31)), none, some (vI y2), some (vI y3), none, none, none]) (And.intro (Or.inr rfl) (And.intro (Or.inl rfl) (And.intro (Or.inr rfl) (And.intro (Or.inr rfl) (And.intro (Or.inl rfl) (And.intro (Or.inl rfl) (And.intro (Or.inl rfl) True.intro))))))) K
        · replace K := K.1 c
          refine J_aload_n rfl dX3_test_49 ?_
          refine J_getI fl_RX3_28 rfl (Or.inl rfl) dX3_test_50 ?_
          refine J_sipush (by decide) (by decide) dX3_test_53 ?_
          refine J_isub K.1 dX3_test_56 ?_
          replace K := K.2
          refine J_bipush (by decide) (by decide) dX3_test_57 ?_
          refine J_icmp_ne (tgt := 66) dX3_test_59 (by decide) (fun c => ?_) (fun c => ?_)
          · replace K := K.2 c
            refine J_iconst (by decide) dX3_test_66 ?_
            refine J_istore (loc' := [some (vR (some 31)), some (vI y1), some (vI y2), some (vI y3), some (vI y4), some (vI 0), none]) (by decide) rfl dX3_test_67 ?_
            exact J_forget (loc' := [some (vR (some 31)), some (vI y1), none, some (vI y3), some (vI y4), some (vI 0), none]) (And.intro (Or.inr rfl) (And.intro (Or.inr rfl) (And.intro (Or.inl rfl) (And.intro (Or.inr rfl) (And.intro (Or.inr rfl) (And.intro (Or.inr rfl) (And.intro (Or.inl rfl) True.intro))))))) K
          · replace K := K.1 c
            refine J_iconst (by decide) dX3_test_62 ?_
            refine J_goto (tgt := 67) dX3_test_63 (by decide) ?_
            refine J_istore (loc' := [some (vR (some 31)), some (vI y1), some (vI y2), some (vI y3), some (vI y4), some (vI 1), none]) (by decide) rfl dX3_test_67 ?_
            exact J_forget (loc' := [some (vR (some 31)), some (vI y1), none, some (vI y3), some (vI y4), some (vI 1), none]) (And.intro (Or.inr rfl) (And.intro (Or.inr rfl) (And.intro (Or.inl rfl) (And.intro (Or.inr rfl) (And.intro (Or.inr rfl) (And.intro (Or.inr rfl) (And.intro (Or.inl rfl) True.intro))))))) K
set_option maxRecDepth 20000 in
set_option maxHeartbeats 2000000 in
theorem l_X3_test_147 {d b : Nat} {Q : Option AV → AH → Prop} {h : AH}  {y2 : Int} {y3 : Int}  (K : ∀ h1, h1 = lndX h y3 → (y2 = 0 ∨ y2 = 1) ∧ Q (some (vI y2)) h1) : Lp_X3_test_147 d b Q y2 y3 h := by
  unfold Lp_X3_test_147
  refine J_aload_n rfl dX3_test_147 ?_
  refine J_getS (r := 35) fl_RX3_46 rfl (Or.inl rfl) rfl dX3_test_148 ?_
  refine J_iload_n rfl dX3_test_151 ?_
  refine J_b0 (J_callV (b1 := 0) (ci := 5) (vs := [vI y3]) (rest := []) (Or.inr rfl) ml_RX3_146 rfl (by decide) rfl rfl (Or.inl rfl) (Nat.le_of_ble_eq_true rfl) rfl dX3_test_152 (c_X5_land   ?_))
  replace K := K _ rfl
  show J _ _ _ _ _ _ _ [] _
  refine J_iload_n rfl dX3_test_155 ?_
  exact J_zreturn ⟨rfl, K.1⟩ dX3_test_156 K.2
set_option maxRecDepth 20000 in
set_option maxHeartbeats 2000000 in
theorem l_X3_test_69 {d b : Nat} {Q : Option AV → AH → Prop} {h : AH}  {y1 : Int} {y3 : Int} {y4 : Int} {y5 : Int}  (K : (0 ≤ gi h 31 4 ∧ gi h 31 4 ≤ 400 ∧ gi h 31 3 ≤ 401) ∧ ∀ h1, h1 = advX h → (y5 = 0 → R32 ((gi h1 35 2) + 1) ∧ (y5 = 0 → (0 ≤ gi h1 35 2 ∧ gi h1 35 2 ≤ 872) ∧ ∀ h2, h2 = addX h1 5 0 → Lp_X3_test_115 d b Q y1 y3 y4 y5 ((gi h1 35 2) + 1) h2) ∧ (¬(y5 = 0) → (0 ≤ gi h1 35 2 ∧ gi h1 35 2 ≤ 872) ∧ ∀ h3, h3 = addX h1 4 0 → Lp_X3_test_115 d b Q y1 y3 y4 y5 ((gi h1 35 2) + 1) h3)) ∧ (¬(y5 = 0) → ∀ h4, h4 = lndX h1 y3 → R32 ((gi h4 35 2) + 1) ∧ (y5 = 0 → (0 ≤ gi h4 35 2 ∧ gi h4 35 2 ≤ 872) ∧ ∀ h5, h5 = addX h4 5 0 → Lp_X3_test_115 d b Q y1 y3 y4 y5 ((gi h4 35 2) + 1) h5) ∧ (¬(y5 = 0) → (0 ≤ gi h4 35 2 ∧ gi h4 35 2 ≤ 872) ∧ ∀ h6, h6 = addX h4 4 0 → Lp_X3_test_115 d b Q y1 y3 y4 y5 ((gi h4 35 2) + 1) h6))) : Lp_X3_test_69 d b Q y1 y3 y4 y5 h := by
  unfold Lp_X3_test_69
  refine J_aload_n rfl dX3_test_69 ?_
  refine J_b0 (J_callV (b1 := 0) (ci := 3) (vs := []) (rest := []) (Or.inl rfl) ml_RX3_67 rfl (by decide) rfl rfl (Or.inl rfl) (Nat.le_of_ble_eq_true rfl) rfl dX3_test_70 (c_X3_advance  K.1 ?_))
  replace K := K.2
  replace K := K _ rfl
  show J _ _ _ _ _ _ _ [] _
  refine J_iload rfl dX3_test_73 ?_
  refine J_if_eq (tgt := 86) dX3_test_75 (by decide) (fun c => ?_) (fun c => ?_)
  · replace K := K.1 c
    refine J_aload_n rfl dX3_test_86 ?_
    refine J_getS (r := 35) fl_RX3_46 rfl (Or.inl rfl) rfl dX3_test_87 ?_
    refine J_getI fl_RX3_62 rfl (Or.inl rfl) dX3_test_90 ?_
    refine J_iconst (by decide) dX3_test_93 ?_
    refine J_iadd K.1 dX3_test_94 ?_
    replace K := K.2
    refine J_istore (loc' := [some (vR (some 31)), some (vI y1), none, some (vI y3), some (vI y4), some (vI y5), some (vI _)]) (by decide) rfl dX3_test_95 ?_
    refine J_aload_n rfl dX3_test_97 ?_
    refine J_getS (r := 35) fl_RX3_46 rfl (Or.inl rfl) rfl dX3_test_98 ?_
    refine J_iload rfl dX3_test_101 ?_
    refine J_if_eq (tgt := 110) dX3_test_103 (by decide) (fun c => ?_) (fun c => ?_)
    · replace K := K.1 c
      refine J_iconst (by decide) dX3_test_110 ?_
      refine J_iconst (by decide) dX3_test_111 ?_
      refine J_b0 (J_callV (b1 := 0) (ci := 5) (vs := [vI 5, vI 0]) (rest := []) (Or.inr rfl) ml_RX3_137 rfl (by decide) rfl rfl (Or.inl rfl) (Nat.le_of_ble_eq_true rfl) rfl dX3_test_112 (c_X5_add  K.1 ?_))
      replace K := K.2
      replace K := K _ rfl
      show J _ _ _ _ _ _ _ [] _
      exact J_forget (loc' := [some (vR (some 31)), some (vI y1), none, some (vI y3), some (vI y4), some (vI y5), some (vI _)]) (And.intro (Or.inr rfl) (And.intro (Or.inr rfl) (And.intro (Or.inl rfl) (And.intro (Or.inr rfl) (And.intro (Or.inr rfl) (And.intro (Or.inr rfl) (And.intro (Or.inr rfl) True.intro))))))) K
    · replace K := K.2 c
      refine J_iconst (by decide) dX3_test_106 ?_
      refine J_goto (tgt := 111) dX3_test_107 (by decide) ?_
      refine J_iconst (by decide) dX3_test_111 ?_
      refine J_b0 (J_callV (b1 := 0) (ci := 5) (vs := [vI 4, vI 0]) (rest := []) (Or.inr rfl) ml_RX3_137 rfl (by decide) rfl rfl (Or.inl rfl) (Nat.le_of_ble_eq_true rfl) rfl dX3_test_112 (c_X5_add  K.1 ?_))
      replace K := K.2
      replace K := K _ rfl
      show J _ _ _ _ _ _ _ [] _
      exact J_forget (loc' := [some (vR (some 31)), some (vI y1), none, some (vI y3), some (vI y4), some (vI y5), some (vI _)]) (And.intro (Or.inr rfl) (And.intro (Or.inr rfl) (And.intro (Or.inl rfl) (And.intro (Or.inr rfl) (And.intro (Or.inr rfl) (And.intro (Or.inr rfl) (And.intro (Or.inr rfl) True.intro))))))) K
  · replace K := K.2 c
    refine J_aload_n rfl dX3_test_78 ?_
    refine J_getS (r := 35) fl_RX3_46 rfl (Or.inl rfl) rfl dX3_test_79 ?_
    refine J_iload_n rfl dX3_test_82 ?_
    refine J_b0 (J_callV (b1 := 0) (ci := 5) (vs := [vI y3]) (rest := []) (Or.inr rfl) ml_RX3_146 rfl (by decide) rfl rfl (Or.inl rfl) (Nat.le_of_ble_eq_true rfl) rfl dX3_test_83 (c_X5_land   ?_))
    replace K := K _ rfl
    show J _ _ _ _ _ _ _ [] _
    refine J_aload_n rfl dX3_test_86 ?_
    refine J_getS (r := 35) fl_RX3_46 rfl (Or.inl rfl) rfl dX3_test_87 ?_
    refine J_getI fl_RX3_62 rfl (Or.inl rfl) dX3_test_90 ?_
    refine J_iconst (by decide) dX3_test_93 ?_
    refine J_iadd K.1 dX3_test_94 ?_
    replace K := K.2
    refine J_istore (loc' := [some (vR (some 31)), some (vI y1), none, some (vI y3), some (vI y4), some (vI y5), some (vI _)]) (by decide) rfl dX3_test_95 ?_
    refine J_aload_n rfl dX3_test_97 ?_
    refine J_getS (r := 35) fl_RX3_46 rfl (Or.inl rfl) rfl dX3_test_98 ?_
    refine J_iload rfl dX3_test_101 ?_
    refine J_if_eq (tgt := 110) dX3_test_103 (by decide) (fun c => ?_) (fun c => ?_)
    · replace K := K.1 c
      refine J_iconst (by decide) dX3_test_110 ?_
      refine J_iconst (by decide) dX3_test_111 ?_
      refine J_b0 (J_callV (b1 := 0) (ci := 5) (vs := [vI 5, vI 0]) (rest := []) (Or.inr rfl) ml_RX3_137 rfl (by decide) rfl rfl (Or.inl rfl) (Nat.le_of_ble_eq_true rfl) rfl dX3_test_112 (c_X5_add  K.1 ?_))
      replace K := K.2
      replace K := K _ rfl
      show J _ _ _ _ _ _ _ [] _
      exact J_forget (loc' := [some (vR (some 31)), some (vI y1), none, some (vI y3), some (vI y4), some (vI y5), some (vI _)]) (And.intro (Or.inr rfl) (And.intro (Or.inr rfl) (And.intro (Or.inl rfl) (And.intro (Or.inr rfl) (And.intro (Or.inr rfl) (And.intro (Or.inr rfl) (And.intro (Or.inr rfl) True.intro))))))) K
    · replace K := K.2 c
      refine J_iconst (by decide) dX3_test_106 ?_
      refine J_goto (tgt := 111) dX3_test_107 (by decide) ?_
      refine J_iconst (by decide) dX3_test_111 ?_
      refine J_b0 (J_callV (b1 := 0) (ci := 5) (vs := [vI 4, vI 0]) (rest := []) (Or.inr rfl) ml_RX3_137 rfl (by decide) rfl rfl (Or.inl rfl) (Nat.le_of_ble_eq_true rfl) rfl dX3_test_112 (c_X5_add  K.1 ?_))
      replace K := K.2
      replace K := K _ rfl
      show J _ _ _ _ _ _ _ [] _
      exact J_forget (loc' := [some (vR (some 31)), some (vI y1), none, some (vI y3), some (vI y4), some (vI y5), some (vI _)]) (And.intro (Or.inr rfl) (And.intro (Or.inr rfl) (And.intro (Or.inl rfl) (And.intro (Or.inr rfl) (And.intro (Or.inr rfl) (And.intro (Or.inr rfl) (And.intro (Or.inr rfl) True.intro))))))) K
set_option maxRecDepth 20000 in
set_option maxHeartbeats 2000000 in
theorem l_X3_test_115 {d b : Nat} {Q : Option AV → AH → Prop} {h : AH}  {y1 : Int} {y3 : Int} {y4 : Int} {y5 : Int} {y6 : Int}  (K : WM GX d 0 mX3_plain [vR (some 31), vI y1] h (fun r h1 => ∃ u2, r = some (vI u2) ∧ Lp_X3_test_121 d b Q y1 u2 y3 y4 y5 y6 h1)) : Lp_X3_test_115 d b Q y1 y3 y4 y5 y6 h := by
  unfold Lp_X3_test_115
  refine J_aload_n rfl dX3_test_115 ?_
  refine J_iload_n rfl dX3_test_116 ?_
  refine J_b0 (J_callV (b1 := 0) (ci := 3) (vs := [vI y1]) (rest := []) (Or.inl rfl) ml_RX3_143 rfl (by decide) rfl rfl (Or.inl rfl) (Nat.le_of_ble_eq_true rfl) rfl dX3_test_117 (WM_mono K (fun r h1 K => ?_)))
  obtain ⟨u2, rfl, K⟩ := K
  show J _ _ _ _ _ _ _ [vI u2] _
  refine J_istore_n (loc' := [some (vR (some 31)), some (vI y1), some (vI u2), some (vI y3), some (vI y4), some (vI y5), some (vI y6)]) (by decide) rfl dX3_test_120 ?_
  exact J_forget (loc' := [some (vR (some 31)), some (vI y1), some (vI u2), some (vI y3), some (vI y4), some (vI y5), some (vI y6)]) (And.intro (Or.inr rfl) (And.intro (Or.inr rfl) (And.intro (Or.inr rfl) (And.intro (Or.inr rfl) (And.intro (Or.inr rfl) (And.intro (Or.inr rfl) (And.intro (Or.inr rfl) True.intro))))))) K
set_option maxRecDepth 20000 in
set_option maxHeartbeats 2000000 in
theorem l_X3_test_121 {d b : Nat} {Q : Option AV → AH → Prop} {h : AH}  {y1 : Int} {y2 : Int} {y3 : Int} {y4 : Int} {y5 : Int} {y6 : Int}  (K : (y5 = 0 → ∀ h1, h1 = lndX h y6 → Lp_X3_test_141 d b Q y1 y2 y3 y4 h1) ∧ (¬(y5 = 0) → Lp_X3_test_141 d b Q y1 y2 y6 y4 h)) : Lp_X3_test_121 d b Q y1 y2 y3 y4 y5 y6 h := by
  unfold Lp_X3_test_121
  refine J_iload rfl dX3_test_121 ?_
  refine J_if_eq (tgt := 132) dX3_test_123 (by decide) (fun c => ?_) (fun c => ?_)
  · replace K := K.1 c
    refine J_aload_n rfl dX3_test_132 ?_
    refine J_getS (r := 35) fl_RX3_46 rfl (Or.inl rfl) rfl dX3_test_133 ?_
    refine J_iload rfl dX3_test_136 ?_
    refine J_b0 (J_callV (b1 := 0) (ci := 5) (vs := [vI y6]) (rest := []) (Or.inr rfl) ml_RX3_146 rfl (by decide) rfl rfl (Or.inl rfl) (Nat.le_of_ble_eq_true rfl) rfl dX3_test_138 (c_X5_land   ?_))
    replace K := K _ rfl
    show J _ _ _ _ _ _ _ [] _
    exact J_forget (loc' := [some (vR (some 31)), some (vI y1), some (vI y2), some (vI y3), some (vI y4), none, none]) (And.intro (Or.inr rfl) (And.intro (Or.inr rfl) (And.intro (Or.inr rfl) (And.intro (Or.inr rfl) (And.intro (Or.inr rfl) (And.intro (Or.inl rfl) (And.intro (Or.inl rfl) True.intro))))))) K
  · replace K := K.2 c
    refine J_iload rfl dX3_test_126 ?_
    refine J_istore_n (loc' := [some (vR (some 31)), some (vI y1), some (vI y2), some (vI y6), some (vI y4), some (vI y5), some (vI y6)]) (by decide) rfl dX3_test_128 ?_
    refine J_goto (tgt := 141) dX3_test_129 (by decide) ?_
    exact J_forget (loc' := [some (vR (some 31)), some (vI y1), some (vI y2), some (vI y6), some (vI y4), none, none]) (And.intro (Or.inr rfl) (And.intro (Or.inr rfl) (And.intro (Or.inr rfl) (And.intro (Or.inr rfl) (And.intro (Or.inr rfl) (And.intro (Or.inl rfl) (And.intro (Or.inl rfl) True.intro))))))) K
set_option maxRecDepth 20000 in
set_option maxHeartbeats 2000000 in
theorem l_X3_test_141 {d b : Nat} {Q : Option AV → AH → Prop} {h : AH}  {y1 : Int} {y2 : Int} {y3 : Int} {y4 : Int}  (K : R32 (y4 + 1) ∧ Lp_X3_test_11 d b Q y1 y2 y3 (y4 + 1) h) : Lp_X3_test_141 d b Q y1 y2 y3 y4 h := by
  unfold Lp_X3_test_141
  refine J_iinc (loc' := [some (vR (some 31)), some (vI y1), some (vI y2), some (vI y3), some (vI (y4 + 1)), none, none]) (by decide) rfl K.1 rfl dX3_test_141 ?_
  replace K := K.2
  refine J_goto (tgt := 11) dX3_test_144 (by decide) ?_
  exact J_forget (loc' := [some (vR (some 31)), some (vI y1), some (vI y2), some (vI y3), some (vI (y4 + 1)), none, none]) (And.intro (Or.inr rfl) (And.intro (Or.inr rfl) (And.intro (Or.inr rfl) (And.intro (Or.inr rfl) (And.intro (Or.inr rfl) (And.intro (Or.inl rfl) (And.intro (Or.inl rfl) True.intro))))))) K
set_option maxRecDepth 20000 in
set_option maxHeartbeats 2000000 in
theorem w_X3_test {d b : Nat} {Q : Option AV → AH → Prop} {h : AH} {x1 : Int}  (K : WM GX d 0 mX3_plain [vR (some 31), vI x1] h (fun r h1 => ∃ u1, r = some (vI u1) ∧ Lp_X3_test_11 d b Q x1 u1 (-1) 0 h1)) : WM GX (d + 1) b mX3_test [vR (some 31), vI x1] h Q := by
  refine WM_introE (loc' := [some (vR (some 31)), some (vI x1), none, none, none, none, none]) rfl (by decide) (Nat.le_of_ble_eq_true rfl) ?_
  refine J_aload_n rfl dX3_test_0 ?_
  refine J_iload_n rfl dX3_test_1 ?_
  refine J_b0 (J_callV (b1 := 0) (ci := 3) (vs := [vI x1]) (rest := []) (Or.inl rfl) ml_RX3_143 rfl (by decide) rfl rfl (Or.inl rfl) (Nat.le_of_ble_eq_true rfl) rfl dX3_test_2 (WM_mono K (fun r h1 K => ?_)))
  obtain ⟨u1, rfl, K⟩ := K
  show J _ _ _ _ _ _ _ [vI u1] _
  refine J_istore_n (loc' := [some (vR (some 31)), some (vI x1), some (vI u1), none, none, none, none]) (by decide) rfl dX3_test_5 ?_
  refine J_iconst (by decide) dX3_test_6 ?_
  refine J_istore_n (loc' := [some (vR (some 31)), some (vI x1), some (vI u1), some (vI (-1)), none, none, none]) (by decide) rfl dX3_test_7 ?_
  refine J_iconst (by decide) dX3_test_8 ?_
  refine J_istore (loc' := [some (vR (some 31)), some (vI x1), some (vI u1), some (vI (-1)), some (vI 0), none, none]) (by decide) rfl dX3_test_9 ?_
  exact J_forget (loc' := [some (vR (some 31)), some (vI x1), some (vI u1), some (vI (-1)), some (vI 0), none, none]) (And.intro (Or.inr rfl) (And.intro (Or.inr rfl) (And.intro (Or.inr rfl) (And.intro (Or.inr rfl) (And.intro (Or.inr rfl) (And.intro (Or.inl rfl) (And.intro (Or.inl rfl) True.intro))))))) K
