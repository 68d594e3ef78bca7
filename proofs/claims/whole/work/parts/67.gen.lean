def Lp_X3_part_131 (d b : Nat) (Q : Option AV → AH → Prop)  (y2 : Int) (y3 : Int) (h : AH) : Prop := J GX (d + 1) b mX3_part Q 131 [some (vR (some 31)), none, some (vI y2), some (vI y3), none] [] h
def Lp_X3_part_167 (d b : Nat) (Q : Option AV → AH → Prop)  (y2 : Int) (y3 : Int) (h : AH) : Prop := J GX (d + 1) b mX3_part Q 167 [some (vR (some 31)), none, some (vI y2), some (vI y3), none] [] h
set_option maxRecDepth 20000 in
set_option maxHeartbeats 2000000 in
theorem l_X3_part_131 {d b : Nat} {Q : Option AV → AH → Prop} {h : AH}  {y2 : Int} {y3 : Int}  (K : (y2 = 0 → (y3 < 14 → Lp_X3_part_167 d b Q y2 y3 h) ∧ (¬(y3 < 14) → (0 ≤ gi h 31 4 ∧ gi h 31 4 ≤ 400 ∧ gi h 31 3 ≤ 401) ∧ ∀ h1, h1 = advX h → (0 ≤ gi h1 31 4 ∧ gi h1 31 4 ≤ 400) ∧ (nFrom h1 0 7 = (-1) → Q (some (vI 0)) h1) ∧ (¬(nFrom h1 0 7 = (-1)) → R32 (y3 + (nFrom h1 0 7)) ∧ Lp_X3_part_167 d b Q y2 (y3 + (nFrom h1 0 7)) h1))) ∧ (¬(y2 = 0) → Lp_X3_part_167 d b Q y2 y3 h)) : Lp_X3_part_131 d b Q y2 y3 h := by
  unfold Lp_X3_part_131
  refine J_iload_n rfl dX3_part_131 ?_
  refine J_if_ne (tgt := 167) dX3_part_132 (by decide) (fun c => ?_) (fun c => ?_)
  · replace K := K.2 c
    exact J_forget (loc' := [some (vR (some 31)), none, some (vI y2), some (vI y3), none]) (And.intro (Or.inr rfl) (And.intro (Or.inl rfl) (And.intro (Or.inr rfl) (And.intro (Or.inr rfl) (And.intro (Or.inl rfl) True.intro))))) K
  · replace K := K.1 c
    refine J_iload_n rfl dX3_part_135 ?_
    refine J_bipush (by decide) (by decide) dX3_part_136 ?_
    refine J_icmp_lt (tgt := 167) dX3_part_138 (by decide) (fun c => ?_) (fun c => ?_)
    · replace K := K.1 c
      exact J_forget (loc' := [some (vR (some 31)), none, some (vI y2), some (vI y3), none]) (And.intro (Or.inr rfl) (And.intro (Or.inl rfl) (And.intro (Or.inr rfl) (And.intro (Or.inr rfl) (And.intro (Or.inl rfl) True.intro))))) K
    · replace K := K.2 c
      refine J_aload_n rfl dX3_part_141 ?_
      refine J_b0 (J_callV (b1 := 0) (ci := 3) (vs := []) (rest := []) (Or.inl rfl) ml_RX3_67 rfl (by decide) rfl rfl (Or.inl rfl) (Nat.le_of_ble_eq_true rfl) rfl dX3_part_142 (c_X3_advance  K.1 ?_))
      replace K := K.2
      replace K := K _ rfl
      show J _ _ _ _ _ _ _ [] _
      refine J_aload_n rfl dX3_part_145 ?_
      refine J_iconst (by decide) dX3_part_146 ?_
      refine J_bipush (by decide) (by decide) dX3_part_147 ?_
      refine J_b0 (J_callV (b1 := 0) (ci := 3) (vs := [vI 0, vI 7]) (rest := []) (Or.inl rfl) ml_RX3_127 rfl (by decide) rfl rfl (Or.inl rfl) (Nat.le_of_ble_eq_true rfl) rfl dX3_part_149 (c_X3_numberFrom  K.1 ?_))
      replace K := K.2
      show J _ _ _ _ _ _ _ [vI _] _
      refine J_istore (loc' := [some (vR (some 31)), none, some (vI y2), some (vI y3), some (vI _)]) (by decide) rfl dX3_part_152 ?_
      refine J_iload rfl dX3_part_154 ?_
      refine J_iconst (by decide) dX3_part_156 ?_
      refine J_icmp_ne (tgt := 162) dX3_part_157 (by decide) (fun c => ?_) (fun c => ?_)
      · replace K := K.2 c
        refine J_iload_n rfl dX3_part_162 ?_
        refine J_iload rfl dX3_part_163 ?_
        refine J_iadd K.1 dX3_part_165 ?_
        replace K := K.2
        refine J_istore_n (loc' := [some (vR (some 31)), none, some (vI y2), some (vI _), some (vI _)]) (by decide) rfl dX3_part_166 ?_
        exact J_forget (loc' := [some (vR (some 31)), none, some (vI y2), some (vI _), none]) (And.intro (Or.inr rfl) (And.intro (Or.inl rfl) (And.intro (Or.inr rfl) (And.intro (Or.inr rfl) (And.intro (Or.inl rfl) True.intro))))) K
      · replace K := K.1 c
        refine J_iconst (by decide) dX3_part_160 ?_
        exact J_zreturn ⟨rfl, by decide⟩ dX3_part_161 K
set_option maxRecDepth 20000 in
set_option maxHeartbeats 2000000 in
theorem l_X3_part_167 {d b : Nat} {Q : Option AV → AH → Prop} {h : AH}  {y2 : Int} {y3 : Int}  (K : (y2 = 0 → (0 ≤ gi h 35 2 ∧ gi h 35 2 ≤ 872) ∧ ∀ h1, h1 = addX h 2 y3 → R32 ((gi h1 31 6) + 1) ∧ ∀ h2, h2 = si h1 31 6 ((gi h1 31 6) + 1) → (0 ≤ gi h2 31 4 ∧ gi h2 31 4 ≤ 400 ∧ gi h2 31 3 ≤ 401) ∧ ∀ h3, h3 = advX h2 → Q (some (vI 1)) h3) ∧ (¬(y2 = 0) → (0 ≤ gi h 35 2 ∧ gi h 35 2 ≤ 872) ∧ ∀ h4, h4 = addX h 1 y3 → R32 ((gi h4 31 6) + 1) ∧ ∀ h5, h5 = si h4 31 6 ((gi h4 31 6) + 1) → (0 ≤ gi h5 31 4 ∧ gi h5 31 4 ≤ 400 ∧ gi h5 31 3 ≤ 401) ∧ ∀ h6, h6 = advX h5 → Q (some (vI 1)) h6)) : Lp_X3_part_167 d b Q y2 y3 h := by
  unfold Lp_X3_part_167
  refine J_aload_n rfl dX3_part_167 ?_
  refine J_getS (r := 35) fl_RX3_46 rfl (Or.inl rfl) rfl dX3_part_168 ?_
  refine J_iload_n rfl dX3_part_171 ?_
  refine J_if_eq (tgt := 179) dX3_part_172 (by decide) (fun c => ?_) (fun c => ?_)
  · replace K := K.1 c
    refine J_iconst (by decide) dX3_part_179 ?_
    refine J_iload_n rfl dX3_part_180 ?_
    refine J_b0 (J_callV (b1 := 0) (ci := 5) (vs := [vI 2, vI y3]) (rest := []) (Or.inr rfl) ml_RX3_138 rfl (by decide) rfl rfl (Or.inl rfl) (Nat.le_of_ble_eq_true rfl) rfl dX3_part_181 (c_X5_add  K.1 ?_))
    replace K := K.2
    replace K := K _ rfl
    show J _ _ _ _ _ _ _ [] _
    refine J_aload_n rfl dX3_part_184 ?_
    refine J_dup rfl dX3_part_185 ?_
    refine J_getI fl_RX3_31 rfl (Or.inl rfl) dX3_part_186 ?_
    refine J_iconst (by decide) dX3_part_189 ?_
    refine J_iadd K.1 dX3_part_190 ?_
    replace K := K.2
    refine J_putI fl_RX3_31 rfl (Or.inl rfl) dX3_part_191 ?_
    replace K := K _ rfl
    refine J_aload_n rfl dX3_part_194 ?_
    refine J_b0 (J_callV (b1 := 0) (ci := 3) (vs := []) (rest := []) (Or.inl rfl) ml_RX3_67 rfl (by decide) rfl rfl (Or.inl rfl) (Nat.le_of_ble_eq_true rfl) rfl dX3_part_195 (c_X3_advance  K.1 ?_))
    replace K := K.2
    replace K := K _ rfl
    show J _ _ _ _ _ _ _ [] _
    refine J_iconst (by decide) dX3_part_198 ?_
    exact J_zreturn ⟨rfl, by decide⟩ dX3_part_199 K
  · replace K := K.2 c
    refine J_iconst (by decide) dX3_part_175 ?_
    refine J_goto (tgt := 180) dX3_part_176 (by decide) ?_
    refine J_iload_n rfl dX3_part_180 ?_
    refine J_b0 (J_callV (b1 := 0) (ci := 5) (vs := [vI 1, vI y3]) (rest := []) (Or.inr rfl) ml_RX3_138 rfl (by decide) rfl rfl (Or.inl rfl) (Nat.le_of_ble_eq_true rfl) rfl dX3_part_181 (c_X5_add  K.1 ?_))
    replace K := K.2
    replace K := K _ rfl
    show J _ _ _ _ _ _ _ [] _
    refine J_aload_n rfl dX3_part_184 ?_
    refine J_dup rfl dX3_part_185 ?_
    refine J_getI fl_RX3_31 rfl (Or.inl rfl) dX3_part_186 ?_
    refine J_iconst (by decide) dX3_part_189 ?_
    refine J_iadd K.1 dX3_part_190 ?_
    replace K := K.2
    refine J_putI fl_RX3_31 rfl (Or.inl rfl) dX3_part_191 ?_
    replace K := K _ rfl
    refine J_aload_n rfl dX3_part_194 ?_
    refine J_b0 (J_callV (b1 := 0) (ci := 3) (vs := []) (rest := []) (Or.inl rfl) ml_RX3_67 rfl (by decide) rfl rfl (Or.inl rfl) (Nat.le_of_ble_eq_true rfl) rfl dX3_part_195 (c_X3_advance  K.1 ?_))
    replace K := K.2
    replace K := K _ rfl
    show J _ _ _ _ _ _ _ [] _
    refine J_iconst (by decide) dX3_part_198 ?_
    exact J_zreturn ⟨rfl, by decide⟩ dX3_part_199 K
set_option maxRecDepth 20000 in
set_option maxHeartbeats 2000000 in
theorem w_X3_part {d b : Nat} {Q : Option AV → AH → Prop} {h : AH} {x1 : Int}  (K : (gi h 31 5 = 91 → (x1 < 8 → (0 ≤ gi h 31 4 ∧ gi h 31 4 ≤ 400 ∧ gi h 31 3 ≤ 401) ∧ ∀ h1, h1 = advX h → R32 (x1 + 1) ∧ WM GX d 0 mX3_sum [vR (some 31), vI 0, vI (x1 + 1)] h1 (fun r h2 => ∃ u1, r = some (vI u1) ∧ (u1 = 0 → Q (some (vI 0)) h2) ∧ (¬(u1 = 0) → (gi h2 31 5 = 93 → (0 ≤ gi h2 31 4 ∧ gi h2 31 4 ≤ 400 ∧ gi h2 31 3 ≤ 401) ∧ ∀ h3, h3 = advX h2 → Q (some (vI 1)) h3) ∧ (¬(gi h2 31 5 = 93) → Q (some (vI 0)) h2)))) ∧ (¬(x1 < 8) → Q (some (vI 0)) h)) ∧ (¬(gi h 31 5 = 91) → (gi h 31 6 < 50 → (gi h 31 5 = 256 → (0 ≤ gi h 31 4 ∧ gi h 31 4 ≤ 400) ∧ (nFrom h 0 1000 = (-1) → Q (some (vI 0)) h) ∧ (¬(nFrom h 0 1000 = (-1)) → Lp_X3_part_131 d b Q 1 (nFrom h 0 1000) h)) ∧ (¬(gi h 31 5 = 256) → (gi h 31 7 = 0 → R32 ((gi h 31 5) - 258) ∧ (lFact ((gi h 31 5) - 258) = (-1) → Q (some (vI 0)) h) ∧ (¬(lFact ((gi h 31 5) - 258) = (-1)) → Lp_X3_part_131 d b Q 0 (lFact ((gi h 31 5) - 258)) h)) ∧ (¬(gi h 31 7 = 0) → R32 ((gi h 31 5) - 258) ∧ (oFact ((gi h 31 5) - 258) = (-1) → Q (some (vI 0)) h) ∧ (¬(oFact ((gi h 31 5) - 258) = (-1)) → Lp_X3_part_131 d b Q 0 (oFact ((gi h 31 5) - 258)) h)))) ∧ (¬(gi h 31 6 < 50) → Q (some (vI 0)) h))) : WM GX (d + 1) b mX3_part [vR (some 31), vI x1] h Q := by
  refine WM_introE (loc' := [some (vR (some 31)), some (vI x1), none, none, none]) rfl (by decide) (Nat.le_of_ble_eq_true rfl) ?_
  refine J_aload_n rfl dX3_part_0 ?_
  refine J_getI fl_RX3_28 rfl (Or.inl rfl) dX3_part_1 ?_
  refine J_bipush (by decide) (by decide) dX3_part_4 ?_
  refine J_icmp_ne (tgt := 49) dX3_part_6 (by decide) (fun c => ?_) (fun c => ?_)
  · replace K := K.2 c
    refine J_aload_n rfl dX3_part_49 ?_
    refine J_getI fl_RX3_31 rfl (Or.inl rfl) dX3_part_50 ?_
    refine J_bipush (by decide) (by decide) dX3_part_53 ?_
    refine J_icmp_lt (tgt := 60) dX3_part_55 (by decide) (fun c => ?_) (fun c => ?_)
    · replace K := K.1 c
      refine J_aload_n rfl dX3_part_60 ?_
      refine J_getI fl_RX3_28 rfl (Or.inl rfl) dX3_part_61 ?_
      refine J_sipush (by decide) (by decide) dX3_part_64 ?_
      refine J_icmp_ne (tgt := 74) dX3_part_67 (by decide) (fun c => ?_) (fun c => ?_)
      · replace K := K.2 c
        refine J_iconst (by decide) dX3_part_74 ?_
        refine J_istore_n (loc' := [some (vR (some 31)), some (vI x1), some (vI 0), none, none]) (by decide) rfl dX3_part_75 ?_
        refine J_iload_n rfl dX3_part_76 ?_
        refine J_if_eq (tgt := 91) dX3_part_77 (by decide) (fun _ => ?_) (fun c => absurd c (by decide))
        refine J_aload_n rfl dX3_part_91 ?_
        refine J_getI fl_RX3_34 rfl (Or.inl rfl) dX3_part_92 ?_
        refine J_if_eq (tgt := 112) dX3_part_95 (by decide) (fun c => ?_) (fun c => ?_)
        · replace K := K.1 c
          refine J_aload_n rfl dX3_part_112 ?_
          refine J_getI fl_RX3_28 rfl (Or.inl rfl) dX3_part_113 ?_
          refine J_sipush (by decide) (by decide) dX3_part_116 ?_
          refine J_isub K.1 dX3_part_119 ?_
          replace K := K.2
          refine J_b0 (J_callS (b1 := 0) (vs := [vI ((gi h 31 5) - 258)]) (rest := []) (Or.inl rfl) ml_RX3_156 rfl (by decide) (Nat.le_of_ble_eq_true rfl) rfl dX3_part_120 (c_X3_lawFact   ?_))
          show J _ _ _ _ _ _ _ [vI (lFact ((gi h 31 5) - 258))] _
          refine J_istore_n (loc' := [some (vR (some 31)), some (vI x1), some (vI 0), some (vI (lFact ((gi h 31 5) - 258))), none]) (by decide) rfl dX3_part_123 ?_
          refine J_iload_n rfl dX3_part_124 ?_
          refine J_iconst (by decide) dX3_part_125 ?_
          refine J_icmp_ne (tgt := 131) dX3_part_126 (by decide) (fun c => ?_) (fun c => ?_)
          · replace K := K.2 c
            exact J_forget (loc' := [some (vR (some 31)), none, some (vI 0), some (vI (lFact ((gi h 31 5) - 258))), none]) (And.intro (Or.inr rfl) (And.intro (Or.inl rfl) (And.intro (Or.inr rfl) (And.intro (Or.inr rfl) (And.intro (Or.inl rfl) True.intro))))) K
          · replace K := K.1 c
            refine J_iconst (by decide) dX3_part_129 ?_
            exact J_zreturn ⟨rfl, by decide⟩ dX3_part_130 K
        · replace K := K.2 c
          refine J_aload_n rfl dX3_part_98 ?_
          refine J_getI fl_RX3_28 rfl (Or.inl rfl) dX3_part_99 ?_
          refine J_sipush (by decide) (by decide) dX3_part_102 ?_
          refine J_isub K.1 dX3_part_105 ?_
          replace K := K.2
          refine J_b0 (J_callS (b1 := 0) (vs := [vI ((gi h 31 5) - 258)]) (rest := []) (Or.inl rfl) ml_RX3_153 rfl (by decide) (Nat.le_of_ble_eq_true rfl) rfl dX3_part_106 (c_X3_orderFact   ?_))
          show J _ _ _ _ _ _ _ [vI (oFact ((gi h 31 5) - 258))] _
          refine J_goto (tgt := 123) dX3_part_109 (by decide) ?_
          refine J_istore_n (loc' := [some (vR (some 31)), some (vI x1), some (vI 0), some (vI (oFact ((gi h 31 5) - 258))), none]) (by decide) rfl dX3_part_123 ?_
          refine J_iload_n rfl dX3_part_124 ?_
          refine J_iconst (by decide) dX3_part_125 ?_
          refine J_icmp_ne (tgt := 131) dX3_part_126 (by decide) (fun c => ?_) (fun c => ?_)
          · replace K := K.2 c
            exact J_forget (loc' := [some (vR (some 31)), none, some (vI 0), some (vI (oFact ((gi h 31 5) - 258))), none]) (And.intro (Or.inr rfl) (And.intro (Or.inl rfl) (And.intro (Or.inr rfl) (And.intro (Or.inr rfl) (And.intro (Or.inl rfl) True.intro))))) K
          · replace K := K.1 c
            refine J_iconst (by decide) dX3_part_129 ?_
            exact J_zreturn ⟨rfl, by decide⟩ dX3_part_130 K
      · replace K := K.1 c
        refine J_iconst (by decide) dX3_part_70 ?_
        refine J_goto (tgt := 75) dX3_part_71 (by decide) ?_
        refine J_istore_n (loc' := [some (vR (some 31)), some (vI x1), some (vI 1), none, none]) (by decide) rfl dX3_part_75 ?_
        refine J_iload_n rfl dX3_part_76 ?_
        refine J_if_eq (tgt := 91) dX3_part_77 (by decide) (fun c => absurd c (by decide)) (fun _ => ?_)
        refine J_aload_n rfl dX3_part_80 ?_
        refine J_iconst (by decide) dX3_part_81 ?_
        refine J_sipush (by decide) (by decide) dX3_part_82 ?_
        refine J_b0 (J_callV (b1 := 0) (ci := 3) (vs := [vI 0, vI 1000]) (rest := []) (Or.inl rfl) ml_RX3_127 rfl (by decide) rfl rfl (Or.inl rfl) (Nat.le_of_ble_eq_true rfl) rfl dX3_part_85 (c_X3_numberFrom  K.1 ?_))
        replace K := K.2
        show J _ _ _ _ _ _ _ [vI (nFrom h 0 1000)] _
        refine J_goto (tgt := 123) dX3_part_88 (by decide) ?_
        refine J_istore_n (loc' := [some (vR (some 31)), some (vI x1), some (vI 1), some (vI (nFrom h 0 1000)), none]) (by decide) rfl dX3_part_123 ?_
        refine J_iload_n rfl dX3_part_124 ?_
        refine J_iconst (by decide) dX3_part_125 ?_
        refine J_icmp_ne (tgt := 131) dX3_part_126 (by decide) (fun c => ?_) (fun c => ?_)
        · replace K := K.2 c
          exact J_forget (loc' := [some (vR (some 31)), none, some (vI 1), some (vI (nFrom h 0 1000)), none]) (And.intro (Or.inr rfl) (And.intro (Or.inl rfl) (And.intro (Or.inr rfl) (And.intro (Or.inr rfl) (And.intro (Or.inl rfl) True.intro))))) K
        · replace K := K.1 c
          refine J_iconst (by decide) dX3_part_129 ?_
          exact J_zreturn ⟨rfl, by decide⟩ dX3_part_130 K
    · replace K := K.2 c
      refine J_iconst (by decide) dX3_part_58 ?_
      exact J_zreturn ⟨rfl, by decide⟩ dX3_part_59 K
  · replace K := K.1 c
    refine J_iload_n rfl dX3_part_9 ?_
    refine J_bipush (by decide) (by decide) dX3_part_10 ?_
    refine J_icmp_lt (tgt := 17) dX3_part_12 (by decide) (fun c => ?_) (fun c => ?_)
    · replace K := K.1 c
      refine J_aload_n rfl dX3_part_17 ?_
      refine J_b0 (J_callV (b1 := 0) (ci := 3) (vs := []) (rest := []) (Or.inl rfl) ml_RX3_67 rfl (by decide) rfl rfl (Or.inl rfl) (Nat.le_of_ble_eq_true rfl) rfl dX3_part_18 (c_X3_advance  K.1 ?_))
      replace K := K.2
      replace K := K _ rfl
      show J _ _ _ _ _ _ _ [] _
      refine J_aload_n rfl dX3_part_21 ?_
      refine J_iconst (by decide) dX3_part_22 ?_
      refine J_iload_n rfl dX3_part_23 ?_
      refine J_iconst (by decide) dX3_part_24 ?_
      refine J_iadd K.1 dX3_part_25 ?_
      replace K := K.2
      refine J_b0 (J_callV (b1 := 0) (ci := 3) (vs := [vI 0, vI (x1 + 1)]) (rest := []) (Or.inl rfl) ml_RX3_141 rfl (by decide) rfl rfl (Or.inl rfl) (Nat.le_of_ble_eq_true rfl) rfl dX3_part_26 (WM_mono K (fun r h2 K => ?_)))
      obtain ⟨u1, rfl, K⟩ := K
      show J _ _ _ _ _ _ _ [vI u1] _
      refine J_if_eq (tgt := 41) dX3_part_29 (by decide) (fun c => ?_) (fun c => ?_)
      · replace K := K.1 c
        refine J_iconst (by decide) dX3_part_41 ?_
        exact J_zreturn ⟨rfl, by decide⟩ dX3_part_42 K
      · replace K := K.2 c
        refine J_aload_n rfl dX3_part_32 ?_
        refine J_getI fl_RX3_28 rfl (Or.inl rfl) dX3_part_33 ?_
        refine J_bipush (by decide) (by decide) dX3_part_36 ?_
        refine J_icmp_eq (tgt := 43) dX3_part_38 (by decide) (fun c => ?_) (fun c => ?_)
        · replace K := K.1 c
          refine J_aload_n rfl dX3_part_43 ?_
          refine J_b0 (J_callV (b1 := 0) (ci := 3) (vs := []) (rest := []) (Or.inl rfl) ml_RX3_67 rfl (by decide) rfl rfl (Or.inl rfl) (Nat.le_of_ble_eq_true rfl) rfl dX3_part_44 (c_X3_advance  K.1 ?_))
          replace K := K.2
          replace K := K _ rfl
          show J _ _ _ _ _ _ _ [] _
          refine J_iconst (by decide) dX3_part_47 ?_
          exact J_zreturn ⟨rfl, by decide⟩ dX3_part_48 K
        · replace K := K.2 c
          refine J_iconst (by decide) dX3_part_41 ?_
          exact J_zreturn ⟨rfl, by decide⟩ dX3_part_42 K
    · replace K := K.2 c
      refine J_iconst (by decide) dX3_part_15 ?_
      exact J_zreturn ⟨rfl, by decide⟩ dX3_part_16 K
def Lp_X3_sum_22 (d b : Nat) (Q : Option AV → AH → Prop)  (y1 : Int) (y2 : Int) (y3 : Int) (y4 : Int) (h : AH) : Prop := J GX (d + 1) b mX3_sum Q 22 [some (vR (some 31)), some (vI y1), some (vI y2), some (vI y3), some (vI y4), none, none, none] [] h
def Lp_X3_sum_61 (d b : Nat) (Q : Option AV → AH → Prop)  (y1 : Int) (y2 : Int) (y4 : Int) (y5 : Int) (y6 : Int) (h : AH) : Prop := J GX (d + 1) b mX3_sum Q 61 [some (vR (some 31)), some (vI y1), some (vI y2), none, some (vI y4), some (vI y5), some (vI y6), none] [] h
def Lp_X3_sum_89 (d b : Nat) (Q : Option AV → AH → Prop)  (y1 : Int) (y2 : Int) (y4 : Int) (y5 : Int) (y6 : Int) (y7 : Int) (h : AH) : Prop := J GX (d + 1) b mX3_sum Q 89 [some (vR (some 31)), some (vI y1), some (vI y2), none, some (vI y4), some (vI y5), some (vI y6), some (vI y7)] [] h
def Lp_X3_sum_108 (d b : Nat) (Q : Option AV → AH → Prop)  (y1 : Int) (y2 : Int) (y4 : Int) (y5 : Int) (h : AH) : Prop := J GX (d + 1) b mX3_sum Q 108 [some (vR (some 31)), some (vI y1), some (vI y2), none, some (vI y4), some (vI y5), none, none] [] h
def Lp_X3_sum_131 (d b : Nat) (Q : Option AV → AH → Prop)  (y1 : Int) (y2 : Int) (y3 : Int) (y4 : Int) (y5 : Int) (h : AH) : Prop := J GX (d + 1) b mX3_sum Q 131 [some (vR (some 31)), some (vI y1), some (vI y2), some (vI y3), some (vI y4), some (vI y5), none, none] [] h
set_option maxRecDepth 20000 in
set_option maxHeartbeats 2000000 in
theorem l_X3_sum_22 {d b : Nat} {Q : Option AV → AH → Prop} {h : AH}  {y1 : Int} {y2 : Int} {y3 : Int} {y4 : Int}  (K : (400 ≤ y4 → (y3 = 0 ∨ y3 = 1) ∧ Q (some (vI y3)) h) ∧ (¬(400 ≤ y4) → (y3 = 0 → (y3 = 0 ∨ y3 = 1) ∧ Q (some (vI y3)) h) ∧ (¬(y3 = 0) → (gi h 31 5 = 43 → Lp_X3_sum_61 d b Q y1 y2 y4 (gi h 31 5) 1 h) ∧ (¬(gi h 31 5 = 43) → (gi h 31 5 = 45 → Lp_X3_sum_61 d b Q y1 y2 y4 (gi h 31 5) 1 h) ∧ (¬(gi h 31 5 = 45) → Lp_X3_sum_61 d b Q y1 y2 y4 (gi h 31 5) 0 h))))) : Lp_X3_sum_22 d b Q y1 y2 y3 y4 h := by
  unfold Lp_X3_sum_22
  refine J_iload rfl dX3_sum_22 ?_
  refine J_sipush (by decide) (by decide) dX3_sum_24 ?_
  refine J_icmp_ge (tgt := 147) dX3_sum_27 (by decide) (fun c => ?_) (fun c => ?_)
  · replace K := K.1 c
    refine J_iload_n rfl dX3_sum_147 ?_
    exact J_zreturn ⟨rfl, K.1⟩ dX3_sum_148 K.2
  · replace K := K.2 c
    refine J_iload_n rfl dX3_sum_30 ?_
    refine J_if_eq (tgt := 147) dX3_sum_31 (by decide) (fun c => ?_) (fun c => ?_)
    · replace K := K.1 c
      refine J_iload_n rfl dX3_sum_147 ?_
      exact J_zreturn ⟨rfl, K.1⟩ dX3_sum_148 K.2
    · replace K := K.2 c
      refine J_aload_n rfl dX3_sum_34 ?_
      refine J_getI fl_RX3_28 rfl (Or.inl rfl) dX3_sum_35 ?_
      refine J_istore (loc' := [some (vR (some 31)), some (vI y1), some (vI y2), some (vI y3), some (vI y4), some (vI (gi h 31 5)), none, none]) (by decide) rfl dX3_sum_38 ?_
      refine J_iload rfl dX3_sum_40 ?_
      refine J_bipush (by decide) (by decide) dX3_sum_42 ?_
      refine J_icmp_eq (tgt := 54) dX3_sum_44 (by decide) (fun c => ?_) (fun c => ?_)
      · replace K := K.1 c
        refine J_iconst (by decide) dX3_sum_54 ?_
        refine J_goto (tgt := 59) dX3_sum_55 (by decide) ?_
        refine J_istore (loc' := [some (vR (some 31)), some (vI y1), some (vI y2), some (vI y3), some (vI y4), some (vI (gi h 31 5)), some (vI 1), none]) (by decide) rfl dX3_sum_59 ?_
        exact J_forget (loc' := [some (vR (some 31)), some (vI y1), some (vI y2), none, some (vI y4), some (vI (gi h 31 5)), some (vI 1), none]) (And.intro (Or.inr rfl) (And.intro (Or.inr rfl) (And.intro (Or.inr rfl) (And.intro (Or.inl rfl) (And.intro (Or.inr rfl) (And.intro (Or.inr rfl) (And.intro (Or.inr rfl) (And.intro (Or.inl rfl) True.intro)))))))) K
      · replace K := K.2 c
        refine J_iload rfl dX3_sum_47 ?_
        refine J_bipush (by decide) (by decide) dX3_sum_49 ?_
        refine J_icmp_ne (tgt := 58) dX3_sum_51 (by decide) (fun c => ?_) (fun c => ?_)
        · replace K := K.2 c
          refine J_iconst (by decide) dX3_sum_58 ?_
          refine J_istore (loc' := [some (vR (some 31)), some (vI y1), some (vI y2), some (vI y3), some (vI y4), some (vI (gi h 31 5)), some (vI 0), none]) (by decide) rfl dX3_sum_59 ?_
          exact J_forget (loc' := [some (vR (some 31)), some (vI y1), some (vI y2), none, some (vI y4), some (vI (gi h 31 5)), some (vI 0), none]) (And.intro (Or.inr rfl) (And.intro (Or.inr rfl) (And.intro (Or.inr rfl) (And.intro (Or.inl rfl) (And.intro (Or.inr rfl) (And.intro (Or.inr rfl) (And.intro (Or.inr rfl) (And.intro (Or.inl rfl) True.intro)))))))) K
        · replace K := K.1 c
          refine J_iconst (by decide) dX3_sum_54 ?_
          refine J_goto (tgt := 59) dX3_sum_55 (by decide) ?_
          refine J_istore (loc' := [some (vR (some 31)), some (vI y1), some (vI y2), some (vI y3), some (vI y4), some (vI (gi h 31 5)), some (vI 1), none]) (by decide) rfl dX3_sum_59 ?_
          exact J_forget (loc' := [some (vR (some 31)), some (vI y1), some (vI y2), none, some (vI y4), some (vI (gi h 31 5)), some (vI 1), none]) (And.intro (Or.inr rfl) (And.intro (Or.inr rfl) (And.intro (Or.inr rfl) (And.intro (Or.inl rfl) (And.intro (Or.inr rfl) (And.intro (Or.inr rfl) (And.intro (Or.inr rfl) (And.intro (Or.inl rfl) True.intro)))))))) K
set_option maxRecDepth 20000 in
set_option maxHeartbeats 2000000 in
theorem l_X3_sum_61 {d b : Nat} {Q : Option AV → AH → Prop} {h : AH}  {y1 : Int} {y2 : Int} {y4 : Int} {y5 : Int} {y6 : Int}  (K : (y5 = 42 → Lp_X3_sum_89 d b Q y1 y2 y4 y5 y6 1 h) ∧ (¬(y5 = 42) → (y5 = 47 → Lp_X3_sum_89 d b Q y1 y2 y4 y5 y6 1 h) ∧ (¬(y5 = 47) → (y5 = 37 → Lp_X3_sum_89 d b Q y1 y2 y4 y5 y6 1 h) ∧ (¬(y5 = 37) → Lp_X3_sum_89 d b Q y1 y2 y4 y5 y6 0 h)))) : Lp_X3_sum_61 d b Q y1 y2 y4 y5 y6 h := by
  unfold Lp_X3_sum_61
  refine J_iload rfl dX3_sum_61 ?_
  refine J_bipush (by decide) (by decide) dX3_sum_63 ?_
  refine J_icmp_eq (tgt := 82) dX3_sum_65 (by decide) (fun c => ?_) (fun c => ?_)
  · replace K := K.1 c
    refine J_iconst (by decide) dX3_sum_82 ?_
    refine J_goto (tgt := 87) dX3_sum_83 (by decide) ?_
    refine J_istore (loc' := [some (vR (some 31)), some (vI y1), some (vI y2), none, some (vI y4), some (vI y5), some (vI y6), some (vI 1)]) (by decide) rfl dX3_sum_87 ?_
    exact J_forget (loc' := [some (vR (some 31)), some (vI y1), some (vI y2), none, some (vI y4), some (vI y5), some (vI y6), some (vI 1)]) (And.intro (Or.inr rfl) (And.intro (Or.inr rfl) (And.intro (Or.inr rfl) (And.intro (Or.inl rfl) (And.intro (Or.inr rfl) (And.intro (Or.inr rfl) (And.intro (Or.inr rfl) (And.intro (Or.inr rfl) True.intro)))))))) K
  · replace K := K.2 c
    refine J_iload rfl dX3_sum_68 ?_
    refine J_bipush (by decide) (by decide) dX3_sum_70 ?_
    refine J_icmp_eq (tgt := 82) dX3_sum_72 (by decide) (fun c => ?_) (fun c => ?_)
    · replace K := K.1 c
      refine J_iconst (by decide) dX3_sum_82 ?_
      refine J_goto (tgt := 87) dX3_sum_83 (by decide) ?_
      refine J_istore (loc' := [some (vR (some 31)), some (vI y1), some (vI y2), none, some (vI y4), some (vI y5), some (vI y6), some (vI 1)]) (by decide) rfl dX3_sum_87 ?_
      exact J_forget (loc' := [some (vR (some 31)), some (vI y1), some (vI y2), none, some (vI y4), some (vI y5), some (vI y6), some (vI 1)]) (And.intro (Or.inr rfl) (And.intro (Or.inr rfl) (And.intro (Or.inr rfl) (And.intro (Or.inl rfl) (And.intro (Or.inr rfl) (And.intro (Or.inr rfl) (And.intro (Or.inr rfl) (And.intro (Or.inr rfl) True.intro)))))))) K
    · replace K := K.2 c
      refine J_iload rfl dX3_sum_75 ?_
      refine J_bipush (by decide) (by decide) dX3_sum_77 ?_
      refine J_icmp_ne (tgt := 86) dX3_sum_79 (by decide) (fun c => ?_) (fun c => ?_)
      · replace K := K.2 c
        refine J_iconst (by decide) dX3_sum_86 ?_
        refine J_istore (loc' := [some (vR (some 31)), some (vI y1), some (vI y2), none, some (vI y4), some (vI y5), some (vI y6), some (vI 0)]) (by decide) rfl dX3_sum_87 ?_
        exact J_forget (loc' := [some (vR (some 31)), some (vI y1), some (vI y2), none, some (vI y4), some (vI y5), some (vI y6), some (vI 0)]) (And.intro (Or.inr rfl) (And.intro (Or.inr rfl) (And.intro (Or.inr rfl) (And.intro (Or.inl rfl) (And.intro (Or.inr rfl) (And.intro (Or.inr rfl) (And.intro (Or.inr rfl) (And.intro (Or.inr rfl) True.intro)))))))) K
      · replace K := K.1 c
        refine J_iconst (by decide) dX3_sum_82 ?_
        refine J_goto (tgt := 87) dX3_sum_83 (by decide) ?_
        refine J_istore (loc' := [some (vR (some 31)), some (vI y1), some (vI y2), none, some (vI y4), some (vI y5), some (vI y6), some (vI 1)]) (by decide) rfl dX3_sum_87 ?_
        exact J_forget (loc' := [some (vR (some 31)), some (vI y1), some (vI y2), none, some (vI y4), some (vI y5), some (vI y6), some (vI 1)]) (And.intro (Or.inr rfl) (And.intro (Or.inr rfl) (And.intro (Or.inr rfl) (And.intro (Or.inl rfl) (And.intro (Or.inr rfl) (And.intro (Or.inr rfl) (And.intro (Or.inr rfl) (And.intro (Or.inr rfl) True.intro)))))))) K
set_option maxRecDepth 20000 in
set_option maxHeartbeats 2000000 in
theorem l_X3_sum_89 {d b : Nat} {Q : Option AV → AH → Prop} {h : AH}  {y1 : Int} {y2 : Int} {y4 : Int} {y5 : Int} {y6 : Int} {y7 : Int}  (K : (y1 = 0 → (y6 = 0 → Q (some (vI 1)) h) ∧ (¬(y6 = 0) → Lp_X3_sum_108 d b Q y1 y2 y4 y5 h)) ∧ (¬(y1 = 0) → (y7 = 0 → Q (some (vI 1)) h) ∧ (¬(y7 = 0) → Lp_X3_sum_108 d b Q y1 y2 y4 y5 h))) : Lp_X3_sum_89 d b Q y1 y2 y4 y5 y6 y7 h := by
  unfold Lp_X3_sum_89
  refine J_iload_n rfl dX3_sum_89 ?_
  refine J_if_ne (tgt := 101) dX3_sum_90 (by decide) (fun c => ?_) (fun c => ?_)
  · replace K := K.2 c
    refine J_iload rfl dX3_sum_101 ?_
    refine J_if_ne (tgt := 108) dX3_sum_103 (by decide) (fun c => ?_) (fun c => ?_)
    · replace K := K.2 c
      exact J_forget (loc' := [some (vR (some 31)), some (vI y1), some (vI y2), none, some (vI y4), some (vI y5), none, none]) (And.intro (Or.inr rfl) (And.intro (Or.inr rfl) (And.intro (Or.inr rfl) (And.intro (Or.inl rfl) (And.intro (Or.inr rfl) (And.intro (Or.inr rfl) (And.intro (Or.inl rfl) (And.intro (Or.inl rfl) True.intro)))))))) K
    · replace K := K.1 c
      refine J_iconst (by decide) dX3_sum_106 ?_
      exact J_zreturn ⟨rfl, by decide⟩ dX3_sum_107 K
  · replace K := K.1 c
    refine J_iload rfl dX3_sum_93 ?_
    refine J_if_ne (tgt := 108) dX3_sum_95 (by decide) (fun c => ?_) (fun c => ?_)
    · replace K := K.2 c
      exact J_forget (loc' := [some (vR (some 31)), some (vI y1), some (vI y2), none, some (vI y4), some (vI y5), none, none]) (And.intro (Or.inr rfl) (And.intro (Or.inr rfl) (And.intro (Or.inr rfl) (And.intro (Or.inl rfl) (And.intro (Or.inr rfl) (And.intro (Or.inr rfl) (And.intro (Or.inl rfl) (And.intro (Or.inl rfl) True.intro)))))))) K
    · replace K := K.1 c
      refine J_goto (tgt := 106) dX3_sum_98 (by decide) ?_
      refine J_iconst (by decide) dX3_sum_106 ?_
      exact J_zreturn ⟨rfl, by decide⟩ dX3_sum_107 K
set_option maxRecDepth 20000 in
set_option maxHeartbeats 2000000 in
theorem l_X3_sum_108 {d b : Nat} {Q : Option AV → AH → Prop} {h : AH}  {y1 : Int} {y2 : Int} {y4 : Int} {y5 : Int}  (K : (0 ≤ gi h 31 4 ∧ gi h 31 4 ≤ 400 ∧ gi h 31 3 ≤ 401) ∧ ∀ h1, h1 = advX h → (y1 = 0 → WM GX d 0 mX3_sum [vR (some 31), vI 1, vI y2] h1 (fun r h3 => ∃ u4, r = some (vI u4) ∧ Lp_X3_sum_131 d b Q y1 y2 u4 y4 y5 h3)) ∧ (¬(y1 = 0) → WM GX d 0 mX3_part [vR (some 31), vI y2] h1 (fun r h2 => ∃ u3, r = some (vI u3) ∧ Lp_X3_sum_131 d b Q y1 y2 u3 y4 y5 h2))) : Lp_X3_sum_108 d b Q y1 y2 y4 y5 h := by
  unfold Lp_X3_sum_108
  refine J_aload_n rfl dX3_sum_108 ?_
  refine J_b0 (J_callV (b1 := 0) (ci := 3) (vs := []) (rest := []) (Or.inl rfl) ml_RX3_67 rfl (by decide) rfl rfl (Or.inl rfl) (Nat.le_of_ble_eq_true rfl) rfl dX3_sum_109 (c_X3_advance  K.1 ?_))
  replace K := K.2
  replace K := K _ rfl
  show J _ _ _ _ _ _ _ [] _
  refine J_iload_n rfl dX3_sum_112 ?_
  refine J_if_ne (tgt := 125) dX3_sum_113 (by decide) (fun c => ?_) (fun c => ?_)
  · replace K := K.2 c
    refine J_aload_n rfl dX3_sum_125 ?_
    refine J_iload_n rfl dX3_sum_126 ?_
    refine J_b0 (J_callV (b1 := 0) (ci := 3) (vs := [vI y2]) (rest := []) (Or.inl rfl) ml_RX3_150 rfl (by decide) rfl rfl (Or.inl rfl) (Nat.le_of_ble_eq_true rfl) rfl dX3_sum_127 (WM_mono K (fun r h2 K => ?_)))
    obtain ⟨u3, rfl, K⟩ := K
    show J _ _ _ _ _ _ _ [vI u3] _
    refine J_istore_n (loc' := [some (vR (some 31)), some (vI y1), some (vI y2), some (vI u3), some (vI y4), some (vI y5), none, none]) (by decide) rfl dX3_sum_130 ?_
    exact J_forget (loc' := [some (vR (some 31)), some (vI y1), some (vI y2), some (vI u3), some (vI y4), some (vI y5), none, none]) (And.intro (Or.inr rfl) (And.intro (Or.inr rfl) (And.intro (Or.inr rfl) (And.intro (Or.inr rfl) (And.intro (Or.inr rfl) (And.intro (Or.inr rfl) (And.intro (Or.inl rfl) (And.intro (Or.inl rfl) True.intro)))))))) K
  · replace K := K.1 c
    refine J_aload_n rfl dX3_sum_116 ?_
    refine J_iconst (by decide) dX3_sum_117 ?_
    refine J_iload_n rfl dX3_sum_118 ?_
    refine J_b0 (J_callV (b1 := 0) (ci := 3) (vs := [vI 1, vI y2]) (rest := []) (Or.inl rfl) ml_RX3_141 rfl (by decide) rfl rfl (Or.inl rfl) (Nat.le_of_ble_eq_true rfl) rfl dX3_sum_119 (WM_mono K (fun r h3 K => ?_)))
    obtain ⟨u4, rfl, K⟩ := K
    show J _ _ _ _ _ _ _ [vI u4] _
    refine J_goto (tgt := 130) dX3_sum_122 (by decide) ?_
    refine J_istore_n (loc' := [some (vR (some 31)), some (vI y1), some (vI y2), some (vI u4), some (vI y4), some (vI y5), none, none]) (by decide) rfl dX3_sum_130 ?_
    exact J_forget (loc' := [some (vR (some 31)), some (vI y1), some (vI y2), some (vI u4), some (vI y4), some (vI y5), none, none]) (And.intro (Or.inr rfl) (And.intro (Or.inr rfl) (And.intro (Or.inr rfl) (And.intro (Or.inr rfl) (And.intro (Or.inr rfl) (And.intro (Or.inr rfl) (And.intro (Or.inl rfl) (And.intro (Or.inl rfl) True.intro)))))))) K
set_option maxRecDepth 20000 in
set_option maxHeartbeats 2000000 in
theorem l_X3_sum_131 {d b : Nat} {Q : Option AV → AH → Prop} {h : AH}  {y1 : Int} {y2 : Int} {y3 : Int} {y4 : Int} {y5 : Int}  (K : (0 ≤ gi h 35 2 ∧ gi h 35 2 ≤ 872) ∧ ∀ h1, h1 = addX h y5 0 → R32 (y4 + 1) ∧ Lp_X3_sum_22 d b Q y1 y2 y3 (y4 + 1) h1) : Lp_X3_sum_131 d b Q y1 y2 y3 y4 y5 h := by
  unfold Lp_X3_sum_131
  refine J_aload_n rfl dX3_sum_131 ?_
  refine J_getS (r := 35) fl_RX3_46 rfl (Or.inl rfl) rfl dX3_sum_132 ?_
  refine J_iload rfl dX3_sum_135 ?_
  refine J_iconst (by decide) dX3_sum_137 ?_
  refine J_b0 (J_callV (b1 := 0) (ci := 5) (vs := [vI y5, vI 0]) (rest := []) (Or.inr rfl) ml_RX3_138 rfl (by decide) rfl rfl (Or.inl rfl) (Nat.le_of_ble_eq_true rfl) rfl dX3_sum_138 (c_X5_add  K.1 ?_))
  replace K := K.2
  replace K := K _ rfl
  show J _ _ _ _ _ _ _ [] _
  refine J_iinc (loc' := [some (vR (some 31)), some (vI y1), some (vI y2), some (vI y3), some (vI (y4 + 1)), some (vI y5), none, none]) (by decide) rfl K.1 rfl dX3_sum_141 ?_
  replace K := K.2
  refine J_goto (tgt := 22) dX3_sum_144 (by decide) ?_
  exact J_forget (loc' := [some (vR (some 31)), some (vI y1), some (vI y2), some (vI y3), some (vI (y4 + 1)), none, none, none]) (And.intro (Or.inr rfl) (And.intro (Or.inr rfl) (And.intro (Or.inr rfl) (And.intro (Or.inr rfl) (And.intro (Or.inr rfl) (And.intro (Or.inl rfl) (And.intro (Or.inl rfl) (And.intro (Or.inl rfl) True.intro)))))))) K
set_option maxRecDepth 20000 in
set_option maxHeartbeats 2000000 in
theorem w_X3_sum {d b : Nat} {Q : Option AV → AH → Prop} {h : AH} {x1 : Int} {x2 : Int}  (K : (x1 = 0 → WM GX d 0 mX3_sum [vR (some 31), vI 1, vI x2] h (fun r h2 => ∃ u2, r = some (vI u2) ∧ Lp_X3_sum_22 d b Q x1 x2 u2 0 h2)) ∧ (¬(x1 = 0) → WM GX d 0 mX3_part [vR (some 31), vI x2] h (fun r h1 => ∃ u1, r = some (vI u1) ∧ Lp_X3_sum_22 d b Q x1 x2 u1 0 h1))) : WM GX (d + 1) b mX3_sum [vR (some 31), vI x1, vI x2] h Q := by
  refine WM_introE (loc' := [some (vR (some 31)), some (vI x1), some (vI x2), none, none, none, none, none]) rfl (by decide) (Nat.le_of_ble_eq_true rfl) ?_
  refine J_iload_n rfl dX3_sum_0 ?_
  refine J_if_ne (tgt := 13) dX3_sum_1 (by decide) (fun c => ?_) (fun c => ?_)
  · replace K := K.2 c
    refine J_aload_n rfl dX3_sum_13 ?_
    refine J_iload_n rfl dX3_sum_14 ?_
    refine J_b0 (J_callV (b1 := 0) (ci := 3) (vs := [vI x2]) (rest := []) (Or.inl rfl) ml_RX3_150 rfl (by decide) rfl rfl (Or.inl rfl) (Nat.le_of_ble_eq_true rfl) rfl dX3_sum_15 (WM_mono K (fun r h1 K => ?_)))
    obtain ⟨u1, rfl, K⟩ := K
    show J _ _ _ _ _ _ _ [vI u1] _
    refine J_istore_n (loc' := [some (vR (some 31)), some (vI x1), some (vI x2), some (vI u1), none, none, none, none]) (by decide) rfl dX3_sum_18 ?_
    refine J_iconst (by decide) dX3_sum_19 ?_
    refine J_istore (loc' := [some (vR (some 31)), some (vI x1), some (vI x2), some (vI u1), some (vI 0), none, none, none]) (by decide) rfl dX3_sum_20 ?_
    exact J_forget (loc' := [some (vR (some 31)), some (vI x1), some (vI x2), some (vI u1), some (vI 0), none, none, none]) (And.intro (Or.inr rfl) (And.intro (Or.inr rfl) (And.intro (Or.inr rfl) (And.intro (Or.inr rfl) (And.intro (Or.inr rfl) (And.intro (Or.inl rfl) (And.intro (Or.inl rfl) (And.intro (Or.inl rfl) True.intro)))))))) K
  · replace K := K.1 c
    refine J_aload_n rfl dX3_sum_4 ?_
    refine J_iconst (by decide) dX3_sum_5 ?_
    refine J_iload_n rfl dX3_sum_6 ?_
    refine J_b0 (J_callV (b1 := 0) (ci := 3) (vs := [vI 1, vI x2]) (rest := []) (Or.inl rfl) ml_RX3_141 rfl (by decide) rfl rfl (Or.inl rfl) (Nat.le_of_ble_eq_true rfl) rfl dX3_sum_7 (WM_mono K (fun r h2 K => ?_)))
    obtain ⟨u2, rfl, K⟩ := K
    show J _ _ _ _ _ _ _ [vI u2] _
    refine J_goto (tgt := 18) dX3_sum_10 (by decide) ?_
    refine J_istore_n (loc' := [some (vR (some 31)), some (vI x1), some (vI x2), some (vI u2), none, none, none, none]) (by decide) rfl dX3_sum_18 ?_
    refine J_iconst (by decide) dX3_sum_19 ?_
    refine J_istore (loc' := [some (vR (some 31)), some (vI x1), some (vI x2), some (vI u2), some (vI 0), none, none, none]) (by decide) rfl dX3_sum_20 ?_
    exact J_forget (loc' := [some (vR (some 31)), some (vI x1), some (vI x2), some (vI u2), some (vI 0), none, none, none]) (And.intro (Or.inr rfl) (And.intro (Or.inr rfl) (And.intro (Or.inr rfl) (And.intro (Or.inr rfl) (And.intro (Or.inr rfl) (And.intro (Or.inl rfl) (And.intro (Or.inl rfl) (And.intro (Or.inl rfl) True.intro)))))))) K
def Lp_X3_plain_4 (d b : Nat) (Q : Option AV → AH → Prop)  (y1 : Int) (y2 : Int) (y3 : Int) (h : AH) : Prop := J GX (d + 1) b mX3_plain Q 4 [some (vR (some 31)), some (vI y1), some (vI y2), some (vI y3)] [] h
def Lp_X3_plain_44 (d b : Nat) (Q : Option AV → AH → Prop)  (y1 : Int) (y2 : Int) (h : AH) : Prop := J GX (d + 1) b mX3_plain Q 44 [some (vR (some 31)), some (vI y1), some (vI y2), none] [] h
def Lp_X3_plain_130 (d b : Nat) (Q : Option AV → AH → Prop)  (y1 : Int) (y2 : Int) (y3 : Int) (h : AH) : Prop := J GX (d + 1) b mX3_plain Q 130 [some (vR (some 31)), some (vI y1), some (vI y2), some (vI y3)] [] h
def Lp_X3_plain_154 (d b : Nat) (Q : Option AV → AH → Prop)  (y2 : Int) (h : AH) : Prop := J GX (d + 1) b mX3_plain Q 154 [some (vR (some 31)), none, some (vI y2), none] [] h
set_option maxRecDepth 20000 in
set_option maxHeartbeats 2000000 in
theorem l_X3_plain_4 {d b : Nat} {Q : Option AV → AH → Prop} {h : AH}  {y1 : Int} {y2 : Int} {y3 : Int}  (K : (400 ≤ y3 → Lp_X3_plain_44 d b Q y1 y2 h) ∧ (¬(400 ≤ y3) → R32 ((gi h 31 5) - 258) ∧ ((gi h 31 5) - 258 = 29 → (y2 = 0 → (0 ≤ gi h 31 4 ∧ gi h 31 4 ≤ 400 ∧ gi h 31 3 ≤ 401) ∧ ∀ h2, h2 = advX h → R32 (y3 + 1) ∧ Lp_X3_plain_4 d b Q y1 1 (y3 + 1) h2) ∧ (¬(y2 = 0) → (0 ≤ gi h 31 4 ∧ gi h 31 4 ≤ 400 ∧ gi h 31 3 ≤ 401) ∧ ∀ h1, h1 = advX h → R32 (y3 + 1) ∧ Lp_X3_plain_4 d b Q y1 0 (y3 + 1) h1)) ∧ (¬((gi h 31 5) - 258 = 29) → Lp_X3_plain_44 d b Q y1 y2 h))) : Lp_X3_plain_4 d b Q y1 y2 y3 h := by
  unfold Lp_X3_plain_4
  refine J_iload_n rfl dX3_plain_4 ?_
  refine J_sipush (by decide) (by decide) dX3_plain_5 ?_
  refine J_icmp_ge (tgt := 44) dX3_plain_8 (by decide) (fun c => ?_) (fun c => ?_)
  · replace K := K.1 c
    exact J_forget (loc' := [some (vR (some 31)), some (vI y1), some (vI y2), none]) (And.intro (Or.inr rfl) (And.intro (Or.inr rfl) (And.intro (Or.inr rfl) (And.intro (Or.inl rfl) True.intro)))) K
  · replace K := K.2 c
    refine J_aload_n rfl dX3_plain_11 ?_
    refine J_getI fl_RX3_28 rfl (Or.inl rfl) dX3_plain_12 ?_
    refine J_sipush (by decide) (by decide) dX3_plain_15 ?_
    refine J_isub K.1 dX3_plain_18 ?_
    replace K := K.2
    refine J_bipush (by decide) (by decide) dX3_plain_19 ?_
    refine J_icmp_ne (tgt := 44) dX3_plain_21 (by decide) (fun c => ?_) (fun c => ?_)
    · replace K := K.2 c
      exact J_forget (loc' := [some (vR (some 31)), some (vI y1), some (vI y2), none]) (And.intro (Or.inr rfl) (And.intro (Or.inr rfl) (And.intro (Or.inr rfl) (And.intro (Or.inl rfl) True.intro)))) K
    · replace K := K.1 c
      refine J_iload_n rfl dX3_plain_24 ?_
      refine J_if_ne (tgt := 32) dX3_plain_25 (by decide) (fun c => ?_) (fun c => ?_)
      · replace K := K.2 c
        refine J_iconst (by decide) dX3_plain_32 ?_
        refine J_istore_n (loc' := [some (vR (some 31)), some (vI y1), some (vI 0), some (vI y3)]) (by decide) rfl dX3_plain_33 ?_
        refine J_aload_n rfl dX3_plain_34 ?_
        refine J_b0 (J_callV (b1 := 0) (ci := 3) (vs := []) (rest := []) (Or.inl rfl) ml_RX3_67 rfl (by decide) rfl rfl (Or.inl rfl) (Nat.le_of_ble_eq_true rfl) rfl dX3_plain_35 (c_X3_advance  K.1 ?_))
        replace K := K.2
        replace K := K _ rfl
        show J _ _ _ _ _ _ _ [] _
        refine J_iinc (loc' := [some (vR (some 31)), some (vI y1), some (vI 0), some (vI (y3 + 1))]) (by decide) rfl K.1 rfl dX3_plain_38 ?_
        replace K := K.2
        refine J_goto (tgt := 4) dX3_plain_41 (by decide) ?_
        exact J_forget (loc' := [some (vR (some 31)), some (vI y1), some (vI 0), some (vI (y3 + 1))]) (And.intro (Or.inr rfl) (And.intro (Or.inr rfl) (And.intro (Or.inr rfl) (And.intro (Or.inr rfl) True.intro)))) K
      · replace K := K.1 c
        refine J_iconst (by decide) dX3_plain_28 ?_
        refine J_goto (tgt := 33) dX3_plain_29 (by decide) ?_
        refine J_istore_n (loc' := [some (vR (some 31)), some (vI y1), some (vI 1), some (vI y3)]) (by decide) rfl dX3_plain_33 ?_
        refine J_aload_n rfl dX3_plain_34 ?_
        refine J_b0 (J_callV (b1 := 0) (ci := 3) (vs := []) (rest := []) (Or.inl rfl) ml_RX3_67 rfl (by decide) rfl rfl (Or.inl rfl) (Nat.le_of_ble_eq_true rfl) rfl dX3_plain_35 (c_X3_advance  K.1 ?_))
        replace K := K.2
        replace K := K _ rfl
        show J _ _ _ _ _ _ _ [] _
        refine J_iinc (loc' := [some (vR (some 31)), some (vI y1), some (vI 1), some (vI (y3 + 1))]) (by decide) rfl K.1 rfl dX3_plain_38 ?_
        replace K := K.2
        refine J_goto (tgt := 4) dX3_plain_41 (by decide) ?_
        exact J_forget (loc' := [some (vR (some 31)), some (vI y1), some (vI 1), some (vI (y3 + 1))]) (And.intro (Or.inr rfl) (And.intro (Or.inr rfl) (And.intro (Or.inr rfl) (And.intro (Or.inr rfl) True.intro)))) K
set_option maxRecDepth 20000 in
set_option maxHeartbeats 2000000 in
theorem l_X3_plain_44 {d b : Nat} {Q : Option AV → AH → Prop} {h : AH}  {y1 : Int} {y2 : Int}  (K : (gi h 31 5 = 40 → (y1 < 8 → (0 ≤ gi h 31 4 ∧ gi h 31 4 ≤ 400 ∧ gi h 31 3 ≤ 401) ∧ ∀ h2, h2 = advX h → R32 (y1 + 1) ∧ WM GX d 0 mX3_test [vR (some 31), vI 0, vI (y1 + 1)] h2 (fun r h3 => ∃ u2, r = some (vI u2) ∧ (u2 = 0 → Q (some (vI 0)) h3) ∧ (¬(u2 = 0) → (gi h3 31 5 = 41 → (0 ≤ gi h3 31 4 ∧ gi h3 31 4 ≤ 400 ∧ gi h3 31 3 ≤ 401) ∧ ∀ h4, h4 = advX h3 → Lp_X3_plain_154 d b Q y2 h4) ∧ (¬(gi h3 31 5 = 41) → Q (some (vI 0)) h3)))) ∧ (¬(y1 < 8) → Q (some (vI 0)) h)) ∧ (¬(gi h 31 5 = 40) → WM GX d 0 mX3_sum [vR (some 31), vI 0, vI y1] h (fun r h1 => ∃ u1, r = some (vI u1) ∧ (u1 = 0 → Q (some (vI 0)) h1) ∧ (¬(u1 = 0) → (gi h1 31 5 = 60 → Lp_X3_plain_130 d b Q y1 y2 (gi h1 31 5) h1) ∧ (¬(gi h1 31 5 = 60) → (gi h1 31 5 = 62 → Lp_X3_plain_130 d b Q y1 y2 (gi h1 31 5) h1) ∧ (¬(gi h1 31 5 = 62) → (gi h1 31 5 = 61 → Lp_X3_plain_130 d b Q y1 y2 (gi h1 31 5) h1) ∧ (¬(gi h1 31 5 = 61) → Q (some (vI 0)) h1))))))) : Lp_X3_plain_44 d b Q y1 y2 h := by
  unfold Lp_X3_plain_44
  refine J_aload_n rfl dX3_plain_44 ?_
  refine J_getI fl_RX3_28 rfl (Or.inl rfl) dX3_plain_45 ?_
  refine J_bipush (by decide) (by decide) dX3_plain_48 ?_
  refine J_icmp_ne (tgt := 94) dX3_plain_50 (by decide) (fun c => ?_) (fun c => ?_)
  · replace K := K.2 c
    refine J_aload_n rfl dX3_plain_94 ?_
    refine J_iconst (by decide) dX3_plain_95 ?_
    refine J_iload_n rfl dX3_plain_96 ?_
    refine J_b0 (J_callV (b1 := 0) (ci := 3) (vs := [vI 0, vI y1]) (rest := []) (Or.inl rfl) ml_RX3_141 rfl (by decide) rfl rfl (Or.inl rfl) (Nat.le_of_ble_eq_true rfl) rfl dX3_plain_97 (WM_mono K (fun r h1 K => ?_)))
    obtain ⟨u1, rfl, K⟩ := K
    show J _ _ _ _ _ _ _ [vI u1] _
    refine J_if_ne (tgt := 105) dX3_plain_100 (by decide) (fun c => ?_) (fun c => ?_)
    · replace K := K.2 c
      refine J_aload_n rfl dX3_plain_105 ?_
      refine J_getI fl_RX3_28 rfl (Or.inl rfl) dX3_plain_106 ?_
      refine J_istore_n (loc' := [some (vR (some 31)), some (vI y1), some (vI y2), some (vI _)]) (by decide) rfl dX3_plain_109 ?_
      refine J_iload_n rfl dX3_plain_110 ?_
      refine J_bipush (by decide) (by decide) dX3_plain_111 ?_
      refine J_icmp_eq (tgt := 130) dX3_plain_113 (by decide) (fun c => ?_) (fun c => ?_)
      · replace K := K.1 c
        exact J_forget (loc' := [some (vR (some 31)), some (vI y1), some (vI y2), some (vI _)]) (And.intro (Or.inr rfl) (And.intro (Or.inr rfl) (And.intro (Or.inr rfl) (And.intro (Or.inr rfl) True.intro)))) K
      · replace K := K.2 c
        refine J_iload_n rfl dX3_plain_116 ?_
        refine J_bipush (by decide) (by decide) dX3_plain_117 ?_
        refine J_icmp_eq (tgt := 130) dX3_plain_119 (by decide) (fun c => ?_) (fun c => ?_)
        · replace K := K.1 c
          exact J_forget (loc' := [some (vR (some 31)), some (vI y1), some (vI y2), some (vI _)]) (And.intro (Or.inr rfl) (And.intro (Or.inr rfl) (And.intro (Or.inr rfl) (And.intro (Or.inr rfl) True.intro)))) K
        · replace K := K.2 c
          refine J_iload_n rfl dX3_plain_122 ?_
          refine J_bipush (by decide) (by decide) dX3_plain_123 ?_
          refine J_icmp_eq (tgt := 130) dX3_plain_125 (by decide) (fun c => ?_) (fun c => ?_)
          · replace K := K.1 c
            exact J_forget (loc' := [some (vR (some 31)), some (vI y1), some (vI y2), some (vI _)]) (And.intro (Or.inr rfl) (And.intro (Or.inr rfl) (And.intro (Or.inr rfl) (And.intro (Or.inr rfl) True.intro)))) K
          · replace K := K.2 c
            refine J_iconst (by decide) dX3_plain_128 ?_
            exact J_zreturn ⟨rfl, by decide⟩ dX3_plain_129 K
    · replace K := K.1 c
      refine J_iconst (by decide) dX3_plain_103 ?_
      exact J_zreturn ⟨rfl, by decide⟩ dX3_plain_104 K
  · replace K := K.1 c
    refine J_iload_n rfl dX3_plain_53 ?_
    refine J_bipush (by decide) (by decide) dX3_plain_54 ?_
    refine J_icmp_lt (tgt := 61) dX3_plain_56 (by decide) (fun c => ?_) (fun c => ?_)
    · replace K := K.1 c
      refine J_aload_n rfl dX3_plain_61 ?_
      refine J_b0 (J_callV (b1 := 0) (ci := 3) (vs := []) (rest := []) (Or.inl rfl) ml_RX3_67 rfl (by decide) rfl rfl (Or.inl rfl) (Nat.le_of_ble_eq_true rfl) rfl dX3_plain_62 (c_X3_advance  K.1 ?_))
      replace K := K.2
      replace K := K _ rfl
      show J _ _ _ _ _ _ _ [] _
      refine J_aload_n rfl dX3_plain_65 ?_
      refine J_iconst (by decide) dX3_plain_66 ?_
      refine J_iload_n rfl dX3_plain_67 ?_
      refine J_iconst (by decide) dX3_plain_68 ?_
      refine J_iadd K.1 dX3_plain_69 ?_
      replace K := K.2
      refine J_b0 (J_callV (b1 := 0) (ci := 3) (vs := [vI 0, vI (y1 + 1)]) (rest := []) (Or.inl rfl) ml_RX3_134 rfl (by decide) rfl rfl (Or.inl rfl) (Nat.le_of_ble_eq_true rfl) rfl dX3_plain_70 (WM_mono K (fun r h3 K => ?_)))
      obtain ⟨u2, rfl, K⟩ := K
      show J _ _ _ _ _ _ _ [vI u2] _
      refine J_if_eq (tgt := 85) dX3_plain_73 (by decide) (fun c => ?_) (fun c => ?_)
      · replace K := K.1 c
        refine J_iconst (by decide) dX3_plain_85 ?_
        exact J_zreturn ⟨rfl, by decide⟩ dX3_plain_86 K
      · replace K := K.2 c
        refine J_aload_n rfl dX3_plain_76 ?_
        refine J_getI fl_RX3_28 rfl (Or.inl rfl) dX3_plain_77 ?_
        refine J_bipush (by decide) (by decide) dX3_plain_80 ?_
        refine J_icmp_eq (tgt := 87) dX3_plain_82 (by decide) (fun c => ?_) (fun c => ?_)
        · replace K := K.1 c
          refine J_aload_n rfl dX3_plain_87 ?_
          refine J_b0 (J_callV (b1 := 0) (ci := 3) (vs := []) (rest := []) (Or.inl rfl) ml_RX3_67 rfl (by decide) rfl rfl (Or.inl rfl) (Nat.le_of_ble_eq_true rfl) rfl dX3_plain_88 (c_X3_advance  K.1 ?_))
          replace K := K.2
          replace K := K _ rfl
          show J _ _ _ _ _ _ _ [] _
          refine J_goto (tgt := 154) dX3_plain_91 (by decide) ?_
          exact J_forget (loc' := [some (vR (some 31)), none, some (vI y2), none]) (And.intro (Or.inr rfl) (And.intro (Or.inl rfl) (And.intro (Or.inr rfl) (And.intro (Or.inl rfl) True.intro)))) K
        · replace K := K.2 c
          refine J_iconst (by decide) dX3_plain_85 ?_
          exact J_zreturn ⟨rfl, by decide⟩ dX3_plain_86 K
    · replace K := K.2 c
      refine J_iconst (by decide) dX3_plain_59 ?_
      exact J_zreturn ⟨rfl, by decide⟩ dX3_plain_60 K
set_option maxRecDepth 20000 in
set_option maxHeartbeats 2000000 in
theorem l_X3_plain_130 {d b : Nat} {Q : Option AV → AH → Prop} {h : AH}  {y1 : Int} {y2 : Int} {y3 : Int}  (K : (0 ≤ gi h 31 4 ∧ gi h 31 4 ≤ 400 ∧ gi h 31 3 ≤ 401) ∧ ∀ h1, h1 = advX h → WM GX d 0 mX3_sum [vR (some 31), vI 0, vI y1] h1 (fun r h2 => ∃ u3, r = some (vI u3) ∧ (u3 = 0 → Q (some (vI 0)) h2) ∧ (¬(u3 = 0) → (0 ≤ gi h2 35 2 ∧ gi h2 35 2 ≤ 872) ∧ ∀ h3, h3 = addX h2 y3 0 → Lp_X3_plain_154 d b Q y2 h3))) : Lp_X3_plain_130 d b Q y1 y2 y3 h := by
  unfold Lp_X3_plain_130
  refine J_aload_n rfl dX3_plain_130 ?_
  refine J_b0 (J_callV (b1 := 0) (ci := 3) (vs := []) (rest := []) (Or.inl rfl) ml_RX3_67 rfl (by decide) rfl rfl (Or.inl rfl) (Nat.le_of_ble_eq_true rfl) rfl dX3_plain_131 (c_X3_advance  K.1 ?_))
  replace K := K.2
  replace K := K _ rfl
  show J _ _ _ _ _ _ _ [] _
  refine J_aload_n rfl dX3_plain_134 ?_
  refine J_iconst (by decide) dX3_plain_135 ?_
  refine J_iload_n rfl dX3_plain_136 ?_
  refine J_b0 (J_callV (b1 := 0) (ci := 3) (vs := [vI 0, vI y1]) (rest := []) (Or.inl rfl) ml_RX3_141 rfl (by decide) rfl rfl (Or.inl rfl) (Nat.le_of_ble_eq_true rfl) rfl dX3_plain_137 (WM_mono K (fun r h2 K => ?_)))
  obtain ⟨u3, rfl, K⟩ := K
  show J _ _ _ _ _ _ _ [vI u3] _
  refine J_if_ne (tgt := 145) dX3_plain_140 (by decide) (fun c => ?_) (fun c => ?_)
  · replace K := K.2 c
    refine J_aload_n rfl dX3_plain_145 ?_
    refine J_getS (r := 35) fl_RX3_46 rfl (Or.inl rfl) rfl dX3_plain_146 ?_
    refine J_iload_n rfl dX3_plain_149 ?_
    refine J_iconst (by decide) dX3_plain_150 ?_
    refine J_b0 (J_callV (b1 := 0) (ci := 5) (vs := [vI y3, vI 0]) (rest := []) (Or.inr rfl) ml_RX3_138 rfl (by decide) rfl rfl (Or.inl rfl) (Nat.le_of_ble_eq_true rfl) rfl dX3_plain_151 (c_X5_add  K.1 ?_))
    replace K := K.2
    replace K := K _ rfl
    show J _ _ _ _ _ _ _ [] _
    exact J_forget (loc' := [some (vR (some 31)), none, some (vI y2), none]) (And.intro (Or.inr rfl) (And.intro (Or.inl rfl) (And.intro (Or.inr rfl) (And.intro (Or.inl rfl) True.intro)))) K
  · replace K := K.1 c
    refine J_iconst (by decide) dX3_plain_143 ?_
    exact J_zreturn ⟨rfl, by decide⟩ dX3_plain_144 K
set_option maxRecDepth 20000 in
set_option maxHeartbeats 2000000 in
theorem l_X3_plain_154 {d b : Nat} {Q : Option AV → AH → Prop} {h : AH}  {y2 : Int}  (K : (y2 = 0 → Q (some (vI 1)) h) ∧ (¬(y2 = 0) → (0 ≤ gi h 35 2 ∧ gi h 35 2 ≤ 872) ∧ ∀ h1, h1 = addX h 3 0 → Q (some (vI 1)) h1)) : Lp_X3_plain_154 d b Q y2 h := by
  unfold Lp_X3_plain_154
  refine J_iload_n rfl dX3_plain_154 ?_
  refine J_if_eq (tgt := 167) dX3_plain_155 (by decide) (fun c => ?_) (fun c => ?_)
  · replace K := K.1 c
    refine J_iconst (by decide) dX3_plain_167 ?_
    exact J_zreturn ⟨rfl, by decide⟩ dX3_plain_168 K
  · replace K := K.2 c
    refine J_aload_n rfl dX3_plain_158 ?_
    refine J_getS (r := 35) fl_RX3_46 rfl (Or.inl rfl) rfl dX3_plain_159 ?_
    refine J_iconst (by decide) dX3_plain_162 ?_
    refine J_iconst (by decide) dX3_plain_163 ?_
    refine J_b0 (J_callV (b1 := 0) (ci := 5) (vs := [vI 3, vI 0]) (rest := []) (Or.inr rfl) ml_RX3_138 rfl (by decide) rfl rfl (Or.inl rfl) (Nat.le_of_ble_eq_true rfl) rfl dX3_plain_164 (c_X5_add  K.1 ?_))
    replace K := K.2
    replace K := K _ rfl
    show J _ _ _ _ _ _ _ [] _
    refine J_iconst (by decide) dX3_plain_167 ?_
    exact J_zreturn ⟨rfl, by decide⟩ dX3_plain_168 K
set_option maxRecDepth 20000 in
set_option maxHeartbeats 2000000 in
theorem w_X3_plain {d b : Nat} {Q : Option AV → AH → Prop} {h : AH} {x1 : Int}  (K : Lp_X3_plain_4 d b Q x1 0 0 h) : WM GX (d + 1) b mX3_plain [vR (some 31), vI x1] h Q := by
  refine WM_introE (loc' := [some (vR (some 31)), some (vI x1), none, none]) rfl (by decide) (Nat.le_of_ble_eq_true rfl) ?_
  refine J_iconst (by decide) dX3_plain_0 ?_
  refine J_istore_n (loc' := [some (vR (some 31)), some (vI x1), some (vI 0), none]) (by decide) rfl dX3_plain_1 ?_
  refine J_iconst (by decide) dX3_plain_2 ?_
  refine J_istore_n (loc' := [some (vR (some 31)), some (vI x1), some (vI 0), some (vI 0)]) (by decide) rfl dX3_plain_3 ?_
  exact J_forget (loc' := [some (vR (some 31)), some (vI x1), some (vI 0), some (vI 0)]) (And.intro (Or.inr rfl) (And.intro (Or.inr rfl) (And.intro (Or.inr rfl) (And.intro (Or.inr rfl) True.intro)))) K
def Lp_X3_test_35 (d b : Nat) (Q : Option AV → AH → Prop)  (y1 : Int) (y2 : Int) (y3 : Int) (y4 : Int) (y5 : Int) (h : AH) : Prop := J GX (d + 1) b mX3_test Q 35 [some (vR (some 31)), some (vI y1), some (vI y2), some (vI y3), some (vI y4), some (vI y5), none] [] h
def Lp_X3_test_60 (d b : Nat) (Q : Option AV → AH → Prop)  (y1 : Int) (y2 : Int) (y4 : Int) (y5 : Int) (h : AH) : Prop := J GX (d + 1) b mX3_test Q 60 [some (vR (some 31)), some (vI y1), some (vI y2), none, some (vI y4), some (vI y5), none] [] h
def Lp_X3_test_92 (d b : Nat) (Q : Option AV → AH → Prop)  (y1 : Int) (y2 : Int) (y4 : Int) (y5 : Int) (y6 : Int) (h : AH) : Prop := J GX (d + 1) b mX3_test Q 92 [some (vR (some 31)), some (vI y1), some (vI y2), none, some (vI y4), some (vI y5), some (vI y6)] [] h
def Lp_X3_test_111 (d b : Nat) (Q : Option AV → AH → Prop)  (y1 : Int) (y2 : Int) (y3 : Int) (y4 : Int) (y5 : Int) (y6 : Int) (h : AH) : Prop := J GX (d + 1) b mX3_test Q 111 [some (vR (some 31)), some (vI y1), some (vI y2), some (vI y3), some (vI y4), some (vI y5), some (vI y6)] [] h
set_option maxRecDepth 20000 in
set_option maxHeartbeats 2000000 in
theorem l_X3_test_35 {d b : Nat} {Q : Option AV → AH → Prop} {h : AH}  {y1 : Int} {y2 : Int} {y3 : Int} {y4 : Int} {y5 : Int}  (K : (400 ≤ y5 → (y3 = 0 ∨ y3 = 1) ∧ Q (some (vI y3)) h) ∧ (¬(400 ≤ y5) → (y3 = 0 → (y3 = 0 ∨ y3 = 1) ∧ Q (some (vI y3)) h) ∧ (¬(y3 = 0) → R32 ((gi h 31 5) - 258) ∧ ((gi h 31 5) - 258 = y4 → Lp_X3_test_60 d b Q y1 y2 y4 y5 h) ∧ (¬((gi h 31 5) - 258 = y4) → (y3 = 0 ∨ y3 = 1) ∧ Q (some (vI y3)) h)))) : Lp_X3_test_35 d b Q y1 y2 y3 y4 y5 h := by
  unfold Lp_X3_test_35
  refine J_iload rfl dX3_test_35 ?_
  refine J_sipush (by decide) (by decide) dX3_test_37 ?_
  refine J_icmp_ge (tgt := 147) dX3_test_40 (by decide) (fun c => ?_) (fun c => ?_)
  · replace K := K.1 c
    refine J_iload_n rfl dX3_test_147 ?_
    exact J_zreturn ⟨rfl, K.1⟩ dX3_test_148 K.2
  · replace K := K.2 c
    refine J_iload_n rfl dX3_test_43 ?_
    refine J_if_eq (tgt := 147) dX3_test_44 (by decide) (fun c => ?_) (fun c => ?_)
    · replace K := K.1 c
      refine J_iload_n rfl dX3_test_147 ?_
      exact J_zreturn ⟨rfl, K.1⟩ dX3_test_148 K.2
    · replace K := K.2 c
      refine J_aload_n rfl dX3_test_47 ?_
      refine J_getI fl_RX3_28 rfl (Or.inl rfl) dX3_test_48 ?_
      refine J_sipush (by decide) (by decide) dX3_test_51 ?_
      refine J_isub K.1 dX3_test_54 ?_
      replace K := K.2
      refine J_iload rfl dX3_test_55 ?_
      refine J_icmp_ne (tgt := 147) dX3_test_57 (by decide) (fun c => ?_) (fun c => ?_)
      · replace K := K.2 c
        refine J_iload_n rfl dX3_test_147 ?_
        exact J_zreturn ⟨rfl, K.1⟩ dX3_test_148 K.2
      · replace K := K.1 c
        exact J_forget (loc' := [some (vR (some 31)), some (vI y1), some (vI y2), none, some (vI y4), some (vI y5), none]) (And.intro (Or.inr rfl) (And.intro (Or.inr rfl) (And.intro (Or.inr rfl) (And.intro (Or.inl rfl) (And.intro (Or.inr rfl) (And.intro (Or.inr rfl) (And.intro (Or.inl rfl) True.intro))))))) K
set_option maxRecDepth 20000 in
set_option maxHeartbeats 2000000 in
theorem l_X3_test_60 {d b : Nat} {Q : Option AV → AH → Prop} {h : AH}  {y1 : Int} {y2 : Int} {y4 : Int} {y5 : Int}  (K : (0 ≤ gi h 31 4 ∧ gi h 31 4 ≤ 400 ∧ gi h 31 3 ≤ 401) ∧ ∀ h1, h1 = advX h → R32 ((gi h1 35 2) + 1) ∧ (y1 = 0 → (0 ≤ gi h1 35 2 ∧ gi h1 35 2 ≤ 872) ∧ ∀ h3, h3 = addX h1 4 0 → Lp_X3_test_92 d b Q y1 y2 y4 y5 ((gi h1 35 2) + 1) h3) ∧ (¬(y1 = 0) → (0 ≤ gi h1 35 2 ∧ gi h1 35 2 ≤ 872) ∧ ∀ h2, h2 = addX h1 5 0 → Lp_X3_test_92 d b Q y1 y2 y4 y5 ((gi h1 35 2) + 1) h2)) : Lp_X3_test_60 d b Q y1 y2 y4 y5 h := by
  unfold Lp_X3_test_60
  refine J_aload_n rfl dX3_test_60 ?_
  refine J_b0 (J_callV (b1 := 0) (ci := 3) (vs := []) (rest := []) (Or.inl rfl) ml_RX3_67 rfl (by decide) rfl rfl (Or.inl rfl) (Nat.le_of_ble_eq_true rfl) rfl dX3_test_61 (c_X3_advance  K.1 ?_))
  replace K := K.2
  replace K := K _ rfl
  show J _ _ _ _ _ _ _ [] _
  refine J_aload_n rfl dX3_test_64 ?_
  refine J_getS (r := 35) fl_RX3_46 rfl (Or.inl rfl) rfl dX3_test_65 ?_
  refine J_getI fl_RX3_62 rfl (Or.inl rfl) dX3_test_68 ?_
  refine J_iconst (by decide) dX3_test_71 ?_
  refine J_iadd K.1 dX3_test_72 ?_
  replace K := K.2
  refine J_istore (loc' := [some (vR (some 31)), some (vI y1), some (vI y2), none, some (vI y4), some (vI y5), some (vI _)]) (by decide) rfl dX3_test_73 ?_
  refine J_aload_n rfl dX3_test_75 ?_
  refine J_getS (r := 35) fl_RX3_46 rfl (Or.inl rfl) rfl dX3_test_76 ?_
  refine J_iload_n rfl dX3_test_79 ?_
  refine J_if_ne (tgt := 87) dX3_test_80 (by decide) (fun c => ?_) (fun c => ?_)
  · replace K := K.2 c
    refine J_iconst (by decide) dX3_test_87 ?_
    refine J_iconst (by decide) dX3_test_88 ?_
    refine J_b0 (J_callV (b1 := 0) (ci := 5) (vs := [vI 5, vI 0]) (rest := []) (Or.inr rfl) ml_RX3_138 rfl (by decide) rfl rfl (Or.inl rfl) (Nat.le_of_ble_eq_true rfl) rfl dX3_test_89 (c_X5_add  K.1 ?_))
    replace K := K.2
    replace K := K _ rfl
    show J _ _ _ _ _ _ _ [] _
    exact J_forget (loc' := [some (vR (some 31)), some (vI y1), some (vI y2), none, some (vI y4), some (vI y5), some (vI _)]) (And.intro (Or.inr rfl) (And.intro (Or.inr rfl) (And.intro (Or.inr rfl) (And.intro (Or.inl rfl) (And.intro (Or.inr rfl) (And.intro (Or.inr rfl) (And.intro (Or.inr rfl) True.intro))))))) K
  · replace K := K.1 c
    refine J_iconst (by decide) dX3_test_83 ?_
    refine J_goto (tgt := 88) dX3_test_84 (by decide) ?_
    refine J_iconst (by decide) dX3_test_88 ?_
    refine J_b0 (J_callV (b1 := 0) (ci := 5) (vs := [vI 4, vI 0]) (rest := []) (Or.inr rfl) ml_RX3_138 rfl (by decide) rfl rfl (Or.inl rfl) (Nat.le_of_ble_eq_true rfl) rfl dX3_test_89 (c_X5_add  K.1 ?_))
    replace K := K.2
    replace K := K _ rfl
    show J _ _ _ _ _ _ _ [] _
    exact J_forget (loc' := [some (vR (some 31)), some (vI y1), some (vI y2), none, some (vI y4), some (vI y5), some (vI _)]) (And.intro (Or.inr rfl) (And.intro (Or.inr rfl) (And.intro (Or.inr rfl) (And.intro (Or.inl rfl) (And.intro (Or.inr rfl) (And.intro (Or.inr rfl) (And.intro (Or.inr rfl) True.intro))))))) K
set_option maxRecDepth 20000 in
set_option maxHeartbeats 2000000 in
theorem l_X3_test_92 {d b : Nat} {Q : Option AV → AH → Prop} {h : AH}  {y1 : Int} {y2 : Int} {y4 : Int} {y5 : Int} {y6 : Int}  (K : (y1 = 0 → WM GX d 0 mX3_test [vR (some 31), vI 1, vI y2] h (fun r h2 => ∃ u4, r = some (vI u4) ∧ Lp_X3_test_111 d b Q y1 y2 u4 y4 y5 y6 h2)) ∧ (¬(y1 = 0) → WM GX d 0 mX3_plain [vR (some 31), vI y2] h (fun r h1 => ∃ u3, r = some (vI u3) ∧ Lp_X3_test_111 d b Q y1 y2 u3 y4 y5 y6 h1))) : Lp_X3_test_92 d b Q y1 y2 y4 y5 y6 h := by
  unfold Lp_X3_test_92
  refine J_iload_n rfl dX3_test_92 ?_
  refine J_if_ne (tgt := 105) dX3_test_93 (by decide) (fun c => ?_) (fun c => ?_)
  · replace K := K.2 c
    refine J_aload_n rfl dX3_test_105 ?_
    refine J_iload_n rfl dX3_test_106 ?_
    refine J_b0 (J_callV (b1 := 0) (ci := 3) (vs := [vI y2]) (rest := []) (Or.inl rfl) ml_RX3_144 rfl (by decide) rfl rfl (Or.inl rfl) (Nat.le_of_ble_eq_true rfl) rfl dX3_test_107 (WM_mono K (fun r h1 K => ?_)))
    obtain ⟨u3, rfl, K⟩ := K
    show J _ _ _ _ _ _ _ [vI u3] _
    refine J_istore_n (loc' := [some (vR (some 31)), some (vI y1), some (vI y2), some (vI u3), some (vI y4), some (vI y5), some (vI y6)]) (by decide) rfl dX3_test_110 ?_
    exact J_forget (loc' := [some (vR (some 31)), some (vI y1), some (vI y2), some (vI u3), some (vI y4), some (vI y5), some (vI y6)]) (And.intro (Or.inr rfl) (And.intro (Or.inr rfl) (And.intro (Or.inr rfl) (And.intro (Or.inr rfl) (And.intro (Or.inr rfl) (And.intro (Or.inr rfl) (And.intro (Or.inr rfl) True.intro))))))) K
  · replace K := K.1 c
    refine J_aload_n rfl dX3_test_96 ?_
    refine J_iconst (by decide) dX3_test_97 ?_
    refine J_iload_n rfl dX3_test_98 ?_
    refine J_b0 (J_callV (b1 := 0) (ci := 3) (vs := [vI 1, vI y2]) (rest := []) (Or.inl rfl) ml_RX3_134 rfl (by decide) rfl rfl (Or.inl rfl) (Nat.le_of_ble_eq_true rfl) rfl dX3_test_99 (WM_mono K (fun r h2 K => ?_)))
    obtain ⟨u4, rfl, K⟩ := K
    show J _ _ _ _ _ _ _ [vI u4] _
    refine J_goto (tgt := 110) dX3_test_102 (by decide) ?_
    refine J_istore_n (loc' := [some (vR (some 31)), some (vI y1), some (vI y2), some (vI u4), some (vI y4), some (vI y5), some (vI y6)]) (by decide) rfl dX3_test_110 ?_
    exact J_forget (loc' := [some (vR (some 31)), some (vI y1), some (vI y2), some (vI u4), some (vI y4), some (vI y5), some (vI y6)]) (And.intro (Or.inr rfl) (And.intro (Or.inr rfl) (And.intro (Or.inr rfl) (And.intro (Or.inr rfl) (And.intro (Or.inr rfl) (And.intro (Or.inr rfl) (And.intro (Or.inr rfl) True.intro))))))) K
set_option maxRecDepth 20000 in
set_option maxHeartbeats 2000000 in
theorem l_X3_test_111 {d b : Nat} {Q : Option AV → AH → Prop} {h : AH}  {y1 : Int} {y2 : Int} {y3 : Int} {y4 : Int} {y5 : Int} {y6 : Int}  (K : (872 ≤ y6 → R32 (y5 + 1) ∧ Lp_X3_test_35 d b Q y1 y2 y3 y4 (y5 + 1) h) ∧ (¬(872 ≤ y6) → (0 ≤ y6 ∧ y6 < 872) ∧ ∀ h1, h1 = si h 37 y6 (gi h 35 2) → R32 (y5 + 1) ∧ Lp_X3_test_35 d b Q y1 y2 y3 y4 (y5 + 1) h1)) : Lp_X3_test_111 d b Q y1 y2 y3 y4 y5 y6 h := by
  unfold Lp_X3_test_111
  refine J_iload rfl dX3_test_111 ?_
  refine J_aload_n rfl dX3_test_113 ?_
  refine J_getS (r := 35) fl_RX3_46 rfl (Or.inl rfl) rfl dX3_test_114 ?_
  refine J_getS (r := 37) fl_RX3_147 rfl (Or.inl rfl) rfl dX3_test_117 ?_
  refine J_alen (by decide) (by decide) (Or.inl rfl) dX3_test_120 ?_
  refine J_icmp_ge (tgt := 141) dX3_test_121 (by decide) (fun c => ?_) (fun c => ?_)
  · replace K := K.1 c
    refine J_iinc (loc' := [some (vR (some 31)), some (vI y1), some (vI y2), some (vI y3), some (vI y4), some (vI (y5 + 1)), some (vI y6)]) (by decide) rfl K.1 rfl dX3_test_141 ?_
    replace K := K.2
    refine J_goto (tgt := 35) dX3_test_144 (by decide) ?_
    exact J_forget (loc' := [some (vR (some 31)), some (vI y1), some (vI y2), some (vI y3), some (vI y4), some (vI (y5 + 1)), none]) (And.intro (Or.inr rfl) (And.intro (Or.inr rfl) (And.intro (Or.inr rfl) (And.intro (Or.inr rfl) (And.intro (Or.inr rfl) (And.intro (Or.inr rfl) (And.intro (Or.inl rfl) True.intro))))))) K
  · replace K := K.2 c
    refine J_aload_n rfl dX3_test_124 ?_
    refine J_getS (r := 35) fl_RX3_46 rfl (Or.inl rfl) rfl dX3_test_125 ?_
    refine J_getS (r := 37) fl_RX3_147 rfl (Or.inl rfl) rfl dX3_test_128 ?_
    refine J_iload rfl dX3_test_131 ?_
    refine J_aload_n rfl dX3_test_133 ?_
    refine J_getS (r := 35) fl_RX3_46 rfl (Or.inl rfl) rfl dX3_test_134 ?_
    refine J_getI fl_RX3_62 rfl (Or.inl rfl) dX3_test_137 ?_
    refine J_iastore (Or.inl rfl) K.1 dX3_test_140 ?_
    replace K := K.2
    replace K := K _ rfl
    refine J_iinc (loc' := [some (vR (some 31)), some (vI y1), some (vI y2), some (vI y3), some (vI y4), some (vI (y5 + 1)), some (vI y6)]) (by decide) rfl K.1 rfl dX3_test_141 ?_
    replace K := K.2
    refine J_goto (tgt := 35) dX3_test_144 (by decide) ?_
    exact J_forget (loc' := [some (vR (some 31)), some (vI y1), some (vI y2), some (vI y3), some (vI y4), some (vI (y5 + 1)), none]) (And.intro (Or.inr rfl) (And.intro (Or.inr rfl) (And.intro (Or.inr rfl) (And.intro (Or.inr rfl) (And.intro (Or.inr rfl) (And.intro (Or.inr rfl) (And.intro (Or.inl rfl) True.intro))))))) K
set_option maxRecDepth 20000 in
set_option maxHeartbeats 2000000 in
theorem w_X3_test {d b : Nat} {Q : Option AV → AH → Prop} {h : AH} {x1 : Int} {x2 : Int}  (K : (x1 = 0 → WM GX d 0 mX3_test [vR (some 31), vI 1, vI x2] h (fun r h2 => ∃ u2, r = some (vI u2) ∧ (x1 = 0 → Lp_X3_test_35 d b Q x1 x2 u2 27 0 h2) ∧ (¬(x1 = 0) → Lp_X3_test_35 d b Q x1 x2 u2 28 0 h2))) ∧ (¬(x1 = 0) → WM GX d 0 mX3_plain [vR (some 31), vI x2] h (fun r h1 => ∃ u1, r = some (vI u1) ∧ (x1 = 0 → Lp_X3_test_35 d b Q x1 x2 u1 27 0 h1) ∧ (¬(x1 = 0) → Lp_X3_test_35 d b Q x1 x2 u1 28 0 h1)))) : WM GX (d + 1) b mX3_test [vR (some 31), vI x1, vI x2] h Q := by
  refine WM_introE (loc' := [some (vR (some 31)), some (vI x1), some (vI x2), none, none, none, none]) rfl (by decide) (Nat.le_of_ble_eq_true rfl) ?_
  refine J_iload_n rfl dX3_test_0 ?_
  refine J_if_ne (tgt := 13) dX3_test_1 (by decide) (fun c => ?_) (fun c => ?_)
  · replace K := K.2 c
    refine J_aload_n rfl dX3_test_13 ?_
    refine J_iload_n rfl dX3_test_14 ?_
    refine J_b0 (J_callV (b1 := 0) (ci := 3) (vs := [vI x2]) (rest := []) (Or.inl rfl) ml_RX3_144 rfl (by decide) rfl rfl (Or.inl rfl) (Nat.le_of_ble_eq_true rfl) rfl dX3_test_15 (WM_mono K (fun r h1 K => ?_)))
    obtain ⟨u1, rfl, K⟩ := K
    show J _ _ _ _ _ _ _ [vI u1] _
    refine J_istore_n (loc' := [some (vR (some 31)), some (vI x1), some (vI x2), some (vI u1), none, none, none]) (by decide) rfl dX3_test_18 ?_
    refine J_iload_n rfl dX3_test_19 ?_
    refine J_if_ne (tgt := 28) dX3_test_20 (by decide) (fun c => ?_) (fun c => ?_)
    · replace K := K.2 c
      refine J_bipush (by decide) (by decide) dX3_test_28 ?_
      refine J_istore (loc' := [some (vR (some 31)), some (vI x1), some (vI x2), some (vI u1), some (vI 28), none, none]) (by decide) rfl dX3_test_30 ?_
      refine J_iconst (by decide) dX3_test_32 ?_
      refine J_istore (loc' := [some (vR (some 31)), some (vI x1), some (vI x2), some (vI u1), some (vI 28), some (vI 0), none]) (by decide) rfl dX3_test_33 ?_
      exact J_forget (loc' := [some (vR (some 31)), some (vI x1), some (vI x2), some (vI u1), some (vI 28), some (vI 0), none]) (And.intro (Or.inr rfl) (And.intro (Or.inr rfl) (And.intro (Or.inr rfl) (And.intro (Or.inr rfl) (And.intro (Or.inr rfl) (And.intro (Or.inr rfl) (And.intro (Or.inl rfl) True.intro))))))) K
    · replace K := K.1 c
      refine J_bipush (by decide) (by decide) dX3_test_23 ?_
      refine J_goto (tgt := 30) dX3_test_25 (by decide) ?_
      refine J_istore (loc' := [some (vR (some 31)), some (vI x1), some (vI x2), some (vI u1), some (vI 27), none, none]) (by decide) rfl dX3_test_30 ?_
      refine J_iconst (by decide) dX3_test_32 ?_
      refine J_istore (loc' := [some (vR (some 31)), some (vI x1), some (vI x2), some (vI u1), some (vI 27), some (vI 0), none]) (by decide) rfl dX3_test_33 ?_
      exact J_forget (loc' := [some (vR (some 31)), some (vI x1), some (vI x2), some (vI u1), some (vI 27), some (vI 0), none]) (And.intro (Or.inr rfl) (And.intro (Or.inr rfl) (And.intro (Or.inr rfl) (And.intro (Or.inr rfl) (And.intro (Or.inr rfl) (And.intro (Or.inr rfl) (And.intro (Or.inl rfl) True.intro))))))) K
  · replace K := K.1 c
    refine J_aload_n rfl dX3_test_4 ?_
    refine J_iconst (by decide) dX3_test_5 ?_
    refine J_iload_n rfl dX3_test_6 ?_
    refine J_b0 (J_callV (b1 := 0) (ci := 3) (vs := [vI 1, vI x2]) (rest := []) (Or.inl rfl) ml_RX3_134 rfl (by decide) rfl rfl (Or.inl rfl) (Nat.le_of_ble_eq_true rfl) rfl dX3_test_7 (WM_mono K (fun r h2 K => ?_)))
    obtain ⟨u2, rfl, K⟩ := K
    show J _ _ _ _ _ _ _ [vI u2] _
    refine J_goto (tgt := 18) dX3_test_10 (by decide) ?_
    refine J_istore_n (loc' := [some (vR (some 31)), some (vI x1), some (vI x2), some (vI u2), none, none, none]) (by decide) rfl dX3_test_18 ?_
    refine J_iload_n rfl dX3_test_19 ?_
    refine J_if_ne (tgt := 28) dX3_test_20 (by decide) (fun c => ?_) (fun c => ?_)
    · replace K := K.2 c
      refine J_bipush (by decide) (by decide) dX3_test_28 ?_
      refine J_istore (loc' := [some (vR (some 31)), some (vI x1), some (vI x2), some (vI u2), some (vI 28), none, none]) (by decide) rfl dX3_test_30 ?_
      refine J_iconst (by decide) dX3_test_32 ?_
      refine J_istore (loc' := [some (vR (some 31)), some (vI x1), some (vI x2), some (vI u2), some (vI 28), some (vI 0), none]) (by decide) rfl dX3_test_33 ?_
      exact J_forget (loc' := [some (vR (some 31)), some (vI x1), some (vI x2), some (vI u2), some (vI 28), some (vI 0), none]) (And.intro (Or.inr rfl) (And.intro (Or.inr rfl) (And.intro (Or.inr rfl) (And.intro (Or.inr rfl) (And.intro (Or.inr rfl) (And.intro (Or.inr rfl) (And.intro (Or.inl rfl) True.intro))))))) K
    · replace K := K.1 c
      refine J_bipush (by decide) (by decide) dX3_test_23 ?_
      refine J_goto (tgt := 30) dX3_test_25 (by decide) ?_
      refine J_istore (loc' := [some (vR (some 31)), some (vI x1), some (vI x2), some (vI u2), some (vI 27), none, none]) (by decide) rfl dX3_test_30 ?_
      refine J_iconst (by decide) dX3_test_32 ?_
      refine J_istore (loc' := [some (vR (some 31)), some (vI x1), some (vI x2), some (vI u2), some (vI 27), some (vI 0), none]) (by decide) rfl dX3_test_33 ?_
      exact J_forget (loc' := [some (vR (some 31)), some (vI x1), some (vI x2), some (vI u2), some (vI 27), some (vI 0), none]) (And.intro (Or.inr rfl) (And.intro (Or.inr rfl) (And.intro (Or.inr rfl) (And.intro (Or.inr rfl) (And.intro (Or.inr rfl) (And.intro (Or.inr rfl) (And.intro (Or.inl rfl) True.intro))))))) K
