def Lp_X8_orders_19 (d b : Nat) (Q : Option AV → AH → Prop)   (h : AH) : Prop := J GM (d + 10) b mX8_orders Q 19 [some (vR (some 0)), none, none, none] [] h
def Lp_X8_orders_46 (d b : Nat) (Q : Option AV → AH → Prop)   (h : AH) : Prop := J GM (d + 10) b mX8_orders Q 46 [some (vR (some 0)), none, none, none] [] h
def Lp_X8_orders_77 (d b : Nat) (Q : Option AV → AH → Prop)  (y1 : Int) (y2 : Int) (h : AH) : Prop := J GM (d + 10) b mX8_orders Q 77 [some (vR (some 0)), some (vI y1), some (vI y2), none] [] h
def Lp_X8_orders_102 (d b : Nat) (Q : Option AV → AH → Prop)  (y1 : Int) (h : AH) : Prop := J GM (d + 10) b mX8_orders Q 102 [some (vR (some 0)), some (vI y1), none, none] [] h
def Lp_X8_orders_104 (d b : Nat) (Q : Option AV → AH → Prop)  (y1 : Int) (y2 : Int) (h : AH) : Prop := J GM (d + 10) b mX8_orders Q 104 [some (vR (some 0)), some (vI y1), some (vI y2), none] [] h
def Lp_X8_orders_128 (d b : Nat) (Q : Option AV → AH → Prop)  (y1 : Int) (h : AH) : Prop := J GM (d + 10) b mX8_orders Q 128 [some (vR (some 0)), some (vI y1), none, none] [] h
def Lp_X8_orders_140 (d b : Nat) (Q : Option AV → AH → Prop)  (y1 : Int) (y2 : Int) (h : AH) : Prop := J GM (d + 10) b mX8_orders Q 140 [some (vR (some 0)), some (vI y1), some (vI y2), none] [] h
def Lp_X8_orders_150 (d b : Nat) (Q : Option AV → AH → Prop)  (y1 : Int) (y2 : Int) (y3 : Int) (h : AH) : Prop := J GM (d + 10) b mX8_orders Q 150 [some (vR (some 0)), some (vI y1), some (vI y2), some (vI y3)] [] h
def Lp_X8_orders_200 (d b : Nat) (Q : Option AV → AH → Prop)  (y1 : Int) (y2 : Int) (h : AH) : Prop := J GM (d + 10) b mX8_orders Q 200 [some (vR (some 0)), some (vI y1), some (vI y2), none] [] h
set_option maxRecDepth 20000 in
set_option maxHeartbeats 2000000 in
theorem l_X8_orders_19 {d b : Nat} {Q : Option AV → AH → Prop} {h : AH}    (K : (gi h 0 19 = 0 → (gi h 0 16 = 3 ∧ gl h 0 17 = 59 → WM GM (d + 9) 0 mX8_next [vR (some 0)] h (fun r h1 => r = none ∧ WM GM (d + 9) 0 mX8_readOrder [vR (some 0)] h1 (fun r h2 => r = none ∧ Lp_X8_orders_19 d b Q  h2))) ∧ (¬(gi h 0 16 = 3 ∧ gl h 0 17 = 59) → Lp_X8_orders_46 d b Q  h)) ∧ (¬(gi h 0 19 = 0) → Lp_X8_orders_46 d b Q  h)) : Lp_X8_orders_19 d b Q  h := by
  unfold Lp_X8_orders_19
  refine J_aload_n rfl dX8_orders_19 ?_
  refine J_getI fl_RX8_250 rfl (Or.inl rfl) dX8_orders_20 ?_
  refine J_if_ne (tgt := 46) dX8_orders_23 (by decide) (fun c => ?_) (fun c => ?_)
  · replace K := K.2 c
    exact J_forget (loc' := [some (vR (some 0)), none, none, none]) (And.intro (Or.inr rfl) (And.intro (Or.inl rfl) (And.intro (Or.inl rfl) (And.intro (Or.inl rfl) True.intro)))) K
  · replace K := K.1 c
    refine J_aload_n rfl dX8_orders_26 ?_
    refine J_bipush (by decide) (by decide) dX8_orders_27 ?_
    refine J_b0 (J_callV (b1 := 0) (ci := 8) (vs := [vI 59]) (rest := []) (Or.inl rfl) ml_RX8_321 rfl (by decide) rfl rfl (Or.inl rfl) (Nat.le_of_ble_eq_true rfl) rfl dX8_orders_29 (c_X8_isSign   ?_))
    show J _ _ _ _ _ _ _ [vI (b2i (gi h 0 16 = 3 ∧ gl h 0 17 = 59))] _
    refine J_if_eq (tgt := 46) dX8_orders_32 (by decide) (fun c => ?_) (fun c => ?_)
    · replace K := K.2 (b2i_0.mp c)
      exact J_forget (loc' := [some (vR (some 0)), none, none, none]) (And.intro (Or.inr rfl) (And.intro (Or.inl rfl) (And.intro (Or.inl rfl) (And.intro (Or.inl rfl) True.intro)))) K
    · replace K := K.1 (b2i_n0.mp c)
      refine J_aload_n rfl dX8_orders_35 ?_
      refine J_b0 (J_callV (b1 := 0) (ci := 8) (vs := []) (rest := []) (Or.inl rfl) ml_RX8_254 rfl (by decide) rfl rfl (Or.inl rfl) (Nat.le_of_ble_eq_true rfl) rfl dX8_orders_36 (WM_mono K (fun r h1 K => ?_)))
      obtain ⟨rfl, K⟩ := K
      show J _ _ _ _ _ _ _ [] _
      refine J_aload_n rfl dX8_orders_39 ?_
      refine J_b0 (J_callV (b1 := 0) (ci := 8) (vs := []) (rest := []) (Or.inl rfl) ml_RX8_541 rfl (by decide) rfl rfl (Or.inl rfl) (Nat.le_of_ble_eq_true rfl) rfl dX8_orders_40 (WM_mono K (fun r h2 K => ?_)))
      obtain ⟨rfl, K⟩ := K
      show J _ _ _ _ _ _ _ [] _
      refine J_goto (tgt := 19) dX8_orders_43 (by decide) ?_
      exact J_forget (loc' := [some (vR (some 0)), none, none, none]) (And.intro (Or.inr rfl) (And.intro (Or.inl rfl) (And.intro (Or.inl rfl) (And.intro (Or.inl rfl) True.intro)))) K
set_option maxRecDepth 20000 in
set_option maxHeartbeats 2000000 in
theorem l_X8_orders_46 {d b : Nat} {Q : Option AV → AH → Prop} {h : AH}    (K : WM GM (d + 9) 0 mX8_endText [vR (some 0)] h (fun r h1 => r = none ∧ (gi h1 0 19 = 0 → WM GM (d + 9) 0 mX8_keepAll [vR (some 0), vI 17] h1 (fun r h2 => r = none ∧ Lp_X8_orders_77 d b Q (gi h2 0 8) 0 h2)) ∧ (¬(gi h1 0 19 = 0) → (-7 < (-6)) ∧ (∀ i : Int, 0 ≤ i → i < 7 → 0 ≤ gi h1 1 i ∧ gi h1 1 i ≤ 1000000) ∧ ∀ h3, h3 = mTell h1 (-6) → Q (some (vI (-6))) h3))) : Lp_X8_orders_46 d b Q  h := by
  unfold Lp_X8_orders_46
  refine J_aload_n rfl dX8_orders_46 ?_
  refine J_b0 (J_callV (b1 := 0) (ci := 8) (vs := []) (rest := []) (Or.inl rfl) ml_RX8_395 rfl (by decide) rfl rfl (Or.inl rfl) (Nat.le_of_ble_eq_true rfl) rfl dX8_orders_47 (WM_mono K (fun r h1 K => ?_)))
  obtain ⟨rfl, K⟩ := K
  show J _ _ _ _ _ _ _ [] _
  refine J_aload_n rfl dX8_orders_50 ?_
  refine J_getI fl_RX8_250 rfl (Or.inl rfl) dX8_orders_51 ?_
  refine J_if_eq (tgt := 64) dX8_orders_54 (by decide) (fun c => ?_) (fun c => ?_)
  · replace K := K.1 c
    refine J_aload_n rfl dX8_orders_64 ?_
    refine J_bipush (by decide) (by decide) dX8_orders_65 ?_
    refine J_b0 (J_callV (b1 := 0) (ci := 8) (vs := [vI 17]) (rest := []) (Or.inl rfl) ml_RX8_174 rfl (by decide) rfl rfl (Or.inl rfl) (Nat.le_of_ble_eq_true rfl) rfl dX8_orders_67 (WM_mono K (fun r h2 K => ?_)))
    obtain ⟨rfl, K⟩ := K
    show J _ _ _ _ _ _ _ [] _
    refine J_aload_n rfl dX8_orders_70 ?_
    refine J_getI fl_RX8_167 rfl (Or.inl rfl) dX8_orders_71 ?_
    refine J_istore_n (loc' := [some (vR (some 0)), some (vI _), none, none]) (by decide) rfl dX8_orders_74 ?_
    refine J_iconst (by decide) dX8_orders_75 ?_
    refine J_istore_n (loc' := [some (vR (some 0)), some (vI _), some (vI 0), none]) (by decide) rfl dX8_orders_76 ?_
    exact J_forget (loc' := [some (vR (some 0)), some (vI _), some (vI 0), none]) (And.intro (Or.inr rfl) (And.intro (Or.inr rfl) (And.intro (Or.inr rfl) (And.intro (Or.inl rfl) True.intro)))) K
  · replace K := K.2 c
    refine J_aload_n rfl dX8_orders_57 ?_
    refine J_bipush (by decide) (by decide) dX8_orders_58 ?_
    refine J_b0 (J_callV (b1 := 0) (ci := 8) (vs := [vI (-6)]) (rest := []) (Or.inl rfl) ml_RX8_170 rfl (by decide) rfl rfl (Or.inl rfl) (Nat.le_of_ble_eq_true rfl) rfl dX8_orders_60 (c_X8_tell  K.1 K.2.1 ?_))
    replace K := K.2.2
    replace K := K _ rfl
    show J _ _ _ _ _ _ _ [vI (-6)] _
    exact J_ireturn rfl dX8_orders_63 K
set_option maxRecDepth 20000 in
set_option maxHeartbeats 2000000 in
theorem l_X8_orders_77 {d b : Nat} {Q : Option AV → AH → Prop} {h : AH}  {y1 : Int} {y2 : Int}  (K : (944 ≤ y2 → Lp_X8_orders_102 d b Q y1 h) ∧ (¬(944 ≤ y2) → (0 ≤ y2 ∧ y2 < 1062) ∧ (0 ≤ y2 ∧ y2 < 944) ∧ ∀ h1, h1 = si h 7 y2 (gi h 5 y2) → R32 (y2 + 1) ∧ Lp_X8_orders_77 d b Q y1 (y2 + 1) h1)) : Lp_X8_orders_77 d b Q y1 y2 h := by
  unfold Lp_X8_orders_77
  refine J_iload_n rfl dX8_orders_77 ?_
  refine J_sipush (by decide) (by decide) dX8_orders_78 ?_
  refine J_icmp_ge (tgt := 102) dX8_orders_81 (by decide) (fun c => ?_) (fun c => ?_)
  · replace K := K.1 c
    exact J_forget (loc' := [some (vR (some 0)), some (vI y1), none, none]) (And.intro (Or.inr rfl) (And.intro (Or.inr rfl) (And.intro (Or.inl rfl) (And.intro (Or.inl rfl) True.intro)))) K
  · replace K := K.2 c
    refine J_aload_n rfl dX8_orders_84 ?_
    refine J_getS (r := 7) fl_RX8_29 rfl (Or.inl rfl) rfl dX8_orders_85 ?_
    refine J_iload_n rfl dX8_orders_88 ?_
    refine J_aload_n rfl dX8_orders_89 ?_
    refine J_getS (r := 5) fl_RX8_23 rfl (Or.inl rfl) rfl dX8_orders_90 ?_
    refine J_iload_n rfl dX8_orders_93 ?_
    refine J_iaload (Or.inl rfl) K.1 dX8_orders_94 ?_
    replace K := K.2
    refine J_iastore (Or.inl rfl) K.1 dX8_orders_95 ?_
    replace K := K.2
    replace K := K _ rfl
    refine J_iinc (loc' := [some (vR (some 0)), some (vI y1), some (vI (y2 + 1)), none]) (by decide) rfl K.1 rfl dX8_orders_96 ?_
    replace K := K.2
    refine J_goto (tgt := 77) dX8_orders_99 (by decide) ?_
    exact J_forget (loc' := [some (vR (some 0)), some (vI y1), some (vI (y2 + 1)), none]) (And.intro (Or.inr rfl) (And.intro (Or.inr rfl) (And.intro (Or.inr rfl) (And.intro (Or.inl rfl) True.intro)))) K
set_option maxRecDepth 20000 in
set_option maxHeartbeats 2000000 in
theorem l_X8_orders_102 {d b : Nat} {Q : Option AV → AH → Prop} {h : AH}  {y1 : Int}  (K : Lp_X8_orders_104 d b Q y1 0 h) : Lp_X8_orders_102 d b Q y1 h := by
  unfold Lp_X8_orders_102
  refine J_iconst (by decide) dX8_orders_102 ?_
  refine J_istore_n (loc' := [some (vR (some 0)), some (vI y1), some (vI 0), none]) (by decide) rfl dX8_orders_103 ?_
  exact J_forget (loc' := [some (vR (some 0)), some (vI y1), some (vI 0), none]) (And.intro (Or.inr rfl) (And.intro (Or.inr rfl) (And.intro (Or.inr rfl) (And.intro (Or.inl rfl) True.intro)))) K
set_option maxRecDepth 20000 in
set_option maxHeartbeats 2000000 in
theorem l_X8_orders_104 {d b : Nat} {Q : Option AV → AH → Prop} {h : AH}  {y1 : Int} {y2 : Int}  (K : (16 ≤ y2 → Lp_X8_orders_128 d b Q y1 h) ∧ (¬(16 ≤ y2) → (0 ≤ y2 ∧ y2 < 16) ∧ (0 ≤ y2 ∧ y2 < 16) ∧ ∀ h1, h1 = si h 8 y2 (gi h 6 y2) → R32 (y2 + 1) ∧ Lp_X8_orders_104 d b Q y1 (y2 + 1) h1)) : Lp_X8_orders_104 d b Q y1 y2 h := by
  unfold Lp_X8_orders_104
  refine J_iload_n rfl dX8_orders_104 ?_
  refine J_bipush (by decide) (by decide) dX8_orders_105 ?_
  refine J_icmp_ge (tgt := 128) dX8_orders_107 (by decide) (fun c => ?_) (fun c => ?_)
  · replace K := K.1 c
    exact J_forget (loc' := [some (vR (some 0)), some (vI y1), none, none]) (And.intro (Or.inr rfl) (And.intro (Or.inr rfl) (And.intro (Or.inl rfl) (And.intro (Or.inl rfl) True.intro)))) K
  · replace K := K.2 c
    refine J_aload_n rfl dX8_orders_110 ?_
    refine J_getS (r := 8) fl_RX8_32 rfl (Or.inl rfl) rfl dX8_orders_111 ?_
    refine J_iload_n rfl dX8_orders_114 ?_
    refine J_aload_n rfl dX8_orders_115 ?_
    refine J_getS (r := 6) fl_RX8_26 rfl (Or.inl rfl) rfl dX8_orders_116 ?_
    refine J_iload_n rfl dX8_orders_119 ?_
    refine J_iaload (Or.inl rfl) K.1 dX8_orders_120 ?_
    replace K := K.2
    refine J_iastore (Or.inl rfl) K.1 dX8_orders_121 ?_
    replace K := K.2
    replace K := K _ rfl
    refine J_iinc (loc' := [some (vR (some 0)), some (vI y1), some (vI (y2 + 1)), none]) (by decide) rfl K.1 rfl dX8_orders_122 ?_
    replace K := K.2
    refine J_goto (tgt := 104) dX8_orders_125 (by decide) ?_
    exact J_forget (loc' := [some (vR (some 0)), some (vI y1), some (vI (y2 + 1)), none]) (And.intro (Or.inr rfl) (And.intro (Or.inr rfl) (And.intro (Or.inr rfl) (And.intro (Or.inl rfl) True.intro)))) K
set_option maxRecDepth 20000 in
set_option maxHeartbeats 2000000 in
theorem l_X8_orders_128 {d b : Nat} {Q : Option AV → AH → Prop} {h : AH}  {y1 : Int}  (K : ∀ h1, h1 = si h 0 50 0 → ∀ h2, h2 = si h1 0 51 (-1) → Lp_X8_orders_140 d b Q y1 0 h2) : Lp_X8_orders_128 d b Q y1 h := by
  unfold Lp_X8_orders_128
  refine J_aload_n rfl dX8_orders_128 ?_
  refine J_iconst (by decide) dX8_orders_129 ?_
  refine J_putI fl_RX8_525 rfl (Or.inl rfl) dX8_orders_130 ?_
  replace K := K _ rfl
  refine J_aload_n rfl dX8_orders_133 ?_
  refine J_iconst (by decide) dX8_orders_134 ?_
  refine J_putI fl_RX8_528 rfl (Or.inl rfl) dX8_orders_135 ?_
  replace K := K _ rfl
  refine J_iconst (by decide) dX8_orders_138 ?_
  refine J_istore_n (loc' := [some (vR (some 0)), some (vI y1), some (vI 0), none]) (by decide) rfl dX8_orders_139 ?_
  exact J_forget (loc' := [some (vR (some 0)), some (vI y1), some (vI 0), none]) (And.intro (Or.inr rfl) (And.intro (Or.inr rfl) (And.intro (Or.inr rfl) (And.intro (Or.inl rfl) True.intro)))) K
set_option maxRecDepth 20000 in
set_option maxHeartbeats 2000000 in
theorem l_X8_orders_140 {d b : Nat} {Q : Option AV → AH → Prop} {h : AH}  {y1 : Int} {y2 : Int}  (K : (gi h 0 21 ≤ y2 → (-7 < (gi h 0 50)) ∧ (∀ i : Int, 0 ≤ i → i < 7 → 0 ≤ gi h 1 i ∧ gi h 1 i ≤ 1000000) ∧ ∀ h1, h1 = mTell h (gi h 0 50) → Q (some (vI (gi h 0 50))) h1) ∧ (¬(gi h 0 21 ≤ y2) → Lp_X8_orders_150 d b Q y1 y2 0 h)) : Lp_X8_orders_140 d b Q y1 y2 h := by
  unfold Lp_X8_orders_140
  refine J_iload_n rfl dX8_orders_140 ?_
  refine J_aload_n rfl dX8_orders_141 ?_
  refine J_getI fl_RX8_381 rfl (Or.inl rfl) dX8_orders_142 ?_
  refine J_icmp_ge (tgt := 206) dX8_orders_145 (by decide) (fun c => ?_) (fun c => ?_)
  · replace K := K.1 c
    refine J_aload_n rfl dX8_orders_206 ?_
    refine J_aload_n rfl dX8_orders_207 ?_
    refine J_getI fl_RX8_525 rfl (Or.inl rfl) dX8_orders_208 ?_
    refine J_b0 (J_callV (b1 := 0) (ci := 8) (vs := [vI (gi h 0 50)]) (rest := []) (Or.inl rfl) ml_RX8_170 rfl (by decide) rfl rfl (Or.inl rfl) (Nat.le_of_ble_eq_true rfl) rfl dX8_orders_211 (c_X8_tell  K.1 K.2.1 ?_))
    replace K := K.2.2
    replace K := K _ rfl
    show J _ _ _ _ _ _ _ [vI (gi h 0 50)] _
    exact J_ireturn rfl dX8_orders_214 K
  · replace K := K.2 c
    refine J_iconst (by decide) dX8_orders_148 ?_
    refine J_istore_n (loc' := [some (vR (some 0)), some (vI y1), some (vI y2), some (vI 0)]) (by decide) rfl dX8_orders_149 ?_
    exact J_forget (loc' := [some (vR (some 0)), some (vI y1), some (vI y2), some (vI 0)]) (And.intro (Or.inr rfl) (And.intro (Or.inr rfl) (And.intro (Or.inr rfl) (And.intro (Or.inr rfl) True.intro)))) K
set_option maxRecDepth 20000 in
set_option maxHeartbeats 2000000 in
theorem l_X8_orders_150 {d b : Nat} {Q : Option AV → AH → Prop} {h : AH}  {y1 : Int} {y2 : Int} {y3 : Int}  (K : R32 (8 * y2) ∧ R32 ((8 * y2) + 7) ∧ (0 ≤ (8 * y2) + 7 ∧ (8 * y2) + 7 < 96) ∧ (gi h 29 ((8 * y2) + 7) ≤ y3 → Lp_X8_orders_200 d b Q y1 y2 h) ∧ (¬(gi h 29 ((8 * y2) + 7) ≤ y3) → R32 (8 * y2) ∧ WM GM (d + 9) 0 mX8_run [vR (some 0), vI (8 * y2)] h (fun r h1 => ∃ u7, r = some (vI u7) ∧ (0 ≤ u7 → R32 (y3 + 1) ∧ Lp_X8_orders_150 d b Q y1 y2 (y3 + 1) h1) ∧ (¬(0 ≤ u7) → WM GM (d + 9) 0 mX8_giveBack [vR (some 0), vI y1] h1 (fun r h2 => r = none ∧ ∀ h3, h3 = si h2 0 52 y2 → (-7 < (-3)) ∧ (∀ i : Int, 0 ≤ i → i < 7 → 0 ≤ gi h3 1 i ∧ gi h3 1 i ≤ 1000000) ∧ ∀ h4, h4 = mTell h3 (-3) → Q (some (vI (-3))) h4))))) : Lp_X8_orders_150 d b Q y1 y2 y3 h := by
  unfold Lp_X8_orders_150
  refine J_iload_n rfl dX8_orders_150 ?_
  refine J_aload_n rfl dX8_orders_151 ?_
  refine J_getS (r := 29) fl_RX8_146 rfl (Or.inl rfl) rfl dX8_orders_152 ?_
  refine J_bipush (by decide) (by decide) dX8_orders_155 ?_
  refine J_iload_n rfl dX8_orders_157 ?_
  refine J_imul K.1 dX8_orders_158 ?_
  replace K := K.2
  refine J_bipush (by decide) (by decide) dX8_orders_159 ?_
  refine J_iadd K.1 dX8_orders_161 ?_
  replace K := K.2
  refine J_iaload (Or.inl rfl) K.1 dX8_orders_162 ?_
  replace K := K.2
  refine J_icmp_ge (tgt := 200) dX8_orders_163 (by decide) (fun c => ?_) (fun c => ?_)
  · replace K := K.1 c
    exact J_forget (loc' := [some (vR (some 0)), some (vI y1), some (vI y2), none]) (And.intro (Or.inr rfl) (And.intro (Or.inr rfl) (And.intro (Or.inr rfl) (And.intro (Or.inl rfl) True.intro)))) K
  · replace K := K.2 c
    refine J_aload_n rfl dX8_orders_166 ?_
    refine J_bipush (by decide) (by decide) dX8_orders_167 ?_
    refine J_iload_n rfl dX8_orders_169 ?_
    refine J_imul K.1 dX8_orders_170 ?_
    replace K := K.2
    refine J_b0 (J_callV (b1 := 0) (ci := 8) (vs := [vI (8 * y2)]) (rest := []) (Or.inl rfl) ml_RX8_544 rfl (by decide) rfl rfl (Or.inl rfl) (Nat.le_of_ble_eq_true rfl) rfl dX8_orders_171 (WM_mono K (fun r h1 K => ?_)))
    obtain ⟨u7, rfl, K⟩ := K
    show J _ _ _ _ _ _ _ [vI u7] _
    refine J_if_ge (tgt := 194) dX8_orders_174 (by decide) (fun c => ?_) (fun c => ?_)
    · replace K := K.1 c
      refine J_iinc (loc' := [some (vR (some 0)), some (vI y1), some (vI y2), some (vI (y3 + 1))]) (by decide) rfl K.1 rfl dX8_orders_194 ?_
      replace K := K.2
      refine J_goto (tgt := 150) dX8_orders_197 (by decide) ?_
      exact J_forget (loc' := [some (vR (some 0)), some (vI y1), some (vI y2), some (vI (y3 + 1))]) (And.intro (Or.inr rfl) (And.intro (Or.inr rfl) (And.intro (Or.inr rfl) (And.intro (Or.inr rfl) True.intro)))) K
    · replace K := K.2 c
      refine J_aload_n rfl dX8_orders_177 ?_
      refine J_iload_n rfl dX8_orders_178 ?_
      refine J_b0 (J_callV (b1 := 0) (ci := 8) (vs := [vI y1]) (rest := []) (Or.inl rfl) ml_RX8_547 rfl (by decide) rfl rfl (Or.inl rfl) (Nat.le_of_ble_eq_true rfl) rfl dX8_orders_179 (WM_mono K (fun r h2 K => ?_)))
      obtain ⟨rfl, K⟩ := K
      show J _ _ _ _ _ _ _ [] _
      refine J_aload_n rfl dX8_orders_182 ?_
      refine J_iload_n rfl dX8_orders_183 ?_
      refine J_putI fl_RX8_149 rfl (Or.inl rfl) dX8_orders_184 ?_
      replace K := K _ rfl
      refine J_aload_n rfl dX8_orders_187 ?_
      refine J_bipush (by decide) (by decide) dX8_orders_188 ?_
      refine J_b0 (J_callV (b1 := 0) (ci := 8) (vs := [vI (-3)]) (rest := []) (Or.inl rfl) ml_RX8_170 rfl (by decide) rfl rfl (Or.inl rfl) (Nat.le_of_ble_eq_true rfl) rfl dX8_orders_190 (c_X8_tell  K.1 K.2.1 ?_))
      replace K := K.2.2
      replace K := K _ rfl
      show J _ _ _ _ _ _ _ [vI (-3)] _
      exact J_ireturn rfl dX8_orders_193 K
set_option maxRecDepth 20000 in
set_option maxHeartbeats 2000000 in
theorem l_X8_orders_200 {d b : Nat} {Q : Option AV → AH → Prop} {h : AH}  {y1 : Int} {y2 : Int}  (K : R32 (y2 + 1) ∧ Lp_X8_orders_140 d b Q y1 (y2 + 1) h) : Lp_X8_orders_200 d b Q y1 y2 h := by
  unfold Lp_X8_orders_200
  refine J_iinc (loc' := [some (vR (some 0)), some (vI y1), some (vI (y2 + 1)), none]) (by decide) rfl K.1 rfl dX8_orders_200 ?_
  replace K := K.2
  refine J_goto (tgt := 140) dX8_orders_203 (by decide) ?_
  exact J_forget (loc' := [some (vR (some 0)), some (vI y1), some (vI (y2 + 1)), none]) (And.intro (Or.inr rfl) (And.intro (Or.inr rfl) (And.intro (Or.inr rfl) (And.intro (Or.inl rfl) True.intro)))) K
set_option maxRecDepth 20000 in
set_option maxHeartbeats 2000000 in
theorem w_X8_orders {d b : Nat} {Q : Option AV → AH → Prop} {h : AH}   (K : ∀ h1, h1 = si h 0 0 0 → ∀ h2, h2 = si h1 0 52 (-1) → WM GM (d + 9) 0 mX8_beginText [vR (some 0), vI 1] h2 (fun r h3 => r = none ∧ WM GM (d + 9) 0 mX8_readOrder [vR (some 0)] h3 (fun r h4 => r = none ∧ Lp_X8_orders_19 d b Q  h4))) : WM GM (d + 10) b mX8_orders [vR (some 0)] h Q := by
  refine WM_introE (loc' := [some (vR (some 0)), none, none, none]) rfl (by decide) (Nat.le_of_ble_eq_true rfl) ?_
  refine J_aload_n rfl dX8_orders_0 ?_
  refine J_iconst (by decide) dX8_orders_1 ?_
  refine J_putI fl_RX8_161 rfl (Or.inl rfl) dX8_orders_2 ?_
  replace K := K _ rfl
  refine J_aload_n rfl dX8_orders_5 ?_
  refine J_iconst (by decide) dX8_orders_6 ?_
  refine J_putI fl_RX8_149 rfl (Or.inl rfl) dX8_orders_7 ?_
  replace K := K _ rfl
  refine J_aload_n rfl dX8_orders_10 ?_
  refine J_iconst (by decide) dX8_orders_11 ?_
  refine J_b0 (J_callV (b1 := 0) (ci := 8) (vs := [vI 1]) (rest := []) (Or.inl rfl) ml_RX8_389 rfl (by decide) rfl rfl (Or.inl rfl) (Nat.le_of_ble_eq_true rfl) rfl dX8_orders_12 (WM_mono K (fun r h3 K => ?_)))
  obtain ⟨rfl, K⟩ := K
  show J _ _ _ _ _ _ _ [] _
  refine J_aload_n rfl dX8_orders_15 ?_
  refine J_b0 (J_callV (b1 := 0) (ci := 8) (vs := []) (rest := []) (Or.inl rfl) ml_RX8_541 rfl (by decide) rfl rfl (Or.inl rfl) (Nat.le_of_ble_eq_true rfl) rfl dX8_orders_16 (WM_mono K (fun r h4 K => ?_)))
  obtain ⟨rfl, K⟩ := K
  show J _ _ _ _ _ _ _ [] _
  exact J_forget (loc' := [some (vR (some 0)), none, none, none]) (And.intro (Or.inr rfl) (And.intro (Or.inl rfl) (And.intro (Or.inl rfl) (And.intro (Or.inl rfl) True.intro)))) K
def Lp_X8_run_92 (d b : Nat) (Q : Option AV → AH → Prop)  (y1 : Int) (h : AH) : Prop := J GM (d + 9) b mX8_run Q 92 [some (vR (some 0)), some (vI y1), none, none, none] [] h
def Lp_X8_run_118 (d b : Nat) (Q : Option AV → AH → Prop)  (y1 : Int) (y2 : Int) (y3 : Int) (h : AH) : Prop := J GM (d + 9) b mX8_run Q 118 [some (vR (some 0)), some (vI y1), some (vI y2), some (vI y3), none] [] h
set_option maxRecDepth 20000 in
set_option maxHeartbeats 2000000 in
theorem l_X8_run_92 {d b : Nat} {Q : Option AV → AH → Prop} {h : AH}  {y1 : Int}  (K : R32 (y1 + 1) ∧ WM GM (d + 8) 0 mX8_sumOf [vR (some 0), vI (y1 + 1)] h (fun r h1 => ∃ u2, r = some (vI u2) ∧ R32 (y1 + 3) ∧ WM GM (d + 8) 0 mX8_sumOf [vR (some 0), vI (y1 + 3)] h1 (fun r h2 => ∃ u3, r = some (vI u3) ∧ (gi h2 0 53 = 0 → Lp_X8_run_118 d b Q y1 u2 u3 h2) ∧ (¬(gi h2 0 53 = 0) → Q (some (vI (-3))) h2)))) : Lp_X8_run_92 d b Q y1 h := by
  unfold Lp_X8_run_92
  refine J_aload_n rfl dX8_run_92 ?_
  refine J_iload_n rfl dX8_run_93 ?_
  refine J_iconst (by decide) dX8_run_94 ?_
  refine J_iadd K.1 dX8_run_95 ?_
  replace K := K.2
  refine J_b0 (J_callV (b1 := 0) (ci := 8) (vs := [vI (y1 + 1)]) (rest := []) (Or.inl rfl) ml_RX8_534 rfl (by decide) rfl rfl (Or.inl rfl) (Nat.le_of_ble_eq_true rfl) rfl dX8_run_96 (WM_mono K (fun r h1 K => ?_)))
  obtain ⟨u2, rfl, K⟩ := K
  show J _ _ _ _ _ _ _ [vI u2] _
  refine J_istore_n (loc' := [some (vR (some 0)), some (vI y1), some (vI u2), none, none]) (by decide) rfl dX8_run_99 ?_
  refine J_aload_n rfl dX8_run_100 ?_
  refine J_iload_n rfl dX8_run_101 ?_
  refine J_iconst (by decide) dX8_run_102 ?_
  refine J_iadd K.1 dX8_run_103 ?_
  replace K := K.2
  refine J_b0 (J_callV (b1 := 0) (ci := 8) (vs := [vI (y1 + 3)]) (rest := []) (Or.inl rfl) ml_RX8_534 rfl (by decide) rfl rfl (Or.inl rfl) (Nat.le_of_ble_eq_true rfl) rfl dX8_run_104 (WM_mono K (fun r h2 K => ?_)))
  obtain ⟨u3, rfl, K⟩ := K
  show J _ _ _ _ _ _ _ [vI u3] _
  refine J_istore_n (loc' := [some (vR (some 0)), some (vI y1), some (vI u2), some (vI u3), none]) (by decide) rfl dX8_run_107 ?_
  refine J_aload_n rfl dX8_run_108 ?_
  refine J_getI fl_RX8_522 rfl (Or.inl rfl) dX8_run_109 ?_
  refine J_if_eq (tgt := 118) dX8_run_112 (by decide) (fun c => ?_) (fun c => ?_)
  · replace K := K.1 c
    exact J_forget (loc' := [some (vR (some 0)), some (vI y1), some (vI u2), some (vI u3), none]) (And.intro (Or.inr rfl) (And.intro (Or.inr rfl) (And.intro (Or.inr rfl) (And.intro (Or.inr rfl) (And.intro (Or.inl rfl) True.intro))))) K
  · replace K := K.2 c
    refine J_bipush (by decide) (by decide) dX8_run_115 ?_
    exact J_ireturn rfl dX8_run_117 K
set_option maxRecDepth 20000 in
set_option maxHeartbeats 2000000 in
theorem l_X8_run_118 {d b : Nat} {Q : Option AV → AH → Prop} {h : AH}  {y1 : Int} {y2 : Int} {y3 : Int}  (K : (0 ≤ y1 ∧ y1 < 96) ∧ WM GM (d + 8) 0 mX8_act [vR (some 0), vI (gi h 29 y1), vI y2, vI y3] h (fun r h1 => ∃ u4, r = some (vI u4) ∧ (0 ≤ u4 → (0 ≤ y1 ∧ y1 < 96) ∧ (gi h1 29 y1 = 2 → ∀ h4, h4 = si h1 0 51 u4 → R32 ((gi h1 0 50) + 1) ∧ ∀ h5, h5 = si h4 0 50 ((gi h1 0 50) + 1) → Q (some (vI 0)) h5) ∧ (¬(gi h1 29 y1 = 2) → ∀ h2, h2 = si h1 0 51 (gi h1 0 51) → R32 ((gi h1 0 50) + 1) ∧ ∀ h3, h3 = si h2 0 50 ((gi h1 0 50) + 1) → Q (some (vI 0)) h3)) ∧ (¬(0 ≤ u4) → Q (some (vI (-3))) h1))) : Lp_X8_run_118 d b Q y1 y2 y3 h := by
  unfold Lp_X8_run_118
  refine J_aload_n rfl dX8_run_118 ?_
  refine J_aload_n rfl dX8_run_119 ?_
  refine J_getS (r := 29) fl_RX8_146 rfl (Or.inl rfl) rfl dX8_run_120 ?_
  refine J_iload_n rfl dX8_run_123 ?_
  refine J_iaload (Or.inl rfl) K.1 dX8_run_124 ?_
  replace K := K.2
  refine J_iload_n rfl dX8_run_125 ?_
  refine J_iload_n rfl dX8_run_126 ?_
  refine J_b0 (J_callV (b1 := 0) (ci := 8) (vs := [vI (gi h 29 y1), vI y2, vI y3]) (rest := []) (Or.inl rfl) ml_RX8_537 rfl (by decide) rfl rfl (Or.inl rfl) (Nat.le_of_ble_eq_true rfl) rfl dX8_run_127 (WM_mono K (fun r h1 K => ?_)))
  obtain ⟨u4, rfl, K⟩ := K
  show J _ _ _ _ _ _ _ [vI u4] _
  refine J_istore (loc' := [some (vR (some 0)), some (vI y1), some (vI y2), some (vI y3), some (vI u4)]) (by decide) rfl dX8_run_130 ?_
  refine J_iload rfl dX8_run_132 ?_
  refine J_if_ge (tgt := 140) dX8_run_134 (by decide) (fun c => ?_) (fun c => ?_)
  · replace K := K.1 c
    refine J_aload_n rfl dX8_run_140 ?_
    refine J_aload_n rfl dX8_run_141 ?_
    refine J_getS (r := 29) fl_RX8_146 rfl (Or.inl rfl) rfl dX8_run_142 ?_
    refine J_iload_n rfl dX8_run_145 ?_
    refine J_iaload (Or.inl rfl) K.1 dX8_run_146 ?_
    replace K := K.2
    refine J_iconst (by decide) dX8_run_147 ?_
    refine J_icmp_ne (tgt := 156) dX8_run_148 (by decide) (fun c => ?_) (fun c => ?_)
    · replace K := K.2 c
      refine J_aload_n rfl dX8_run_156 ?_
      refine J_getI fl_RX8_528 rfl (Or.inl rfl) dX8_run_157 ?_
      refine J_putI fl_RX8_528 rfl (Or.inl rfl) dX8_run_160 ?_
      replace K := K _ rfl
      refine J_aload_n rfl dX8_run_163 ?_
      refine J_dup rfl dX8_run_164 ?_
      refine J_getIe fl_RX8_525 rfl (Or.inl rfl) (gi_nk (by decide)) dX8_run_165 ?_
      refine J_iconst (by decide) dX8_run_168 ?_
      refine J_iadd K.1 dX8_run_169 ?_
      replace K := K.2
      refine J_putI fl_RX8_525 rfl (Or.inl rfl) dX8_run_170 ?_
      replace K := K _ rfl
      refine J_iconst (by decide) dX8_run_173 ?_
      exact J_ireturn rfl dX8_run_174 K
    · replace K := K.1 c
      refine J_iload rfl dX8_run_151 ?_
      refine J_goto (tgt := 160) dX8_run_153 (by decide) ?_
      refine J_putI fl_RX8_528 rfl (Or.inl rfl) dX8_run_160 ?_
      replace K := K _ rfl
      refine J_aload_n rfl dX8_run_163 ?_
      refine J_dup rfl dX8_run_164 ?_
      refine J_getIe fl_RX8_525 rfl (Or.inl rfl) (gi_nk (by decide)) dX8_run_165 ?_
      refine J_iconst (by decide) dX8_run_168 ?_
      refine J_iadd K.1 dX8_run_169 ?_
      replace K := K.2
      refine J_putI fl_RX8_525 rfl (Or.inl rfl) dX8_run_170 ?_
      replace K := K _ rfl
      refine J_iconst (by decide) dX8_run_173 ?_
      exact J_ireturn rfl dX8_run_174 K
  · replace K := K.2 c
    refine J_bipush (by decide) (by decide) dX8_run_137 ?_
    exact J_ireturn rfl dX8_run_139 K
set_option maxRecDepth 20000 in
set_option maxHeartbeats 2000000 in
theorem w_X8_run {d b : Nat} {Q : Option AV → AH → Prop} {h : AH} {x1 : Int}  (K : ∀ h1, h1 = sl h 19 1 (gi h 2 5) → ∀ h2, h2 = sl h1 19 2 (gi h 0 50) → ∀ h3, h3 = sl h2 19 3 (gi h 0 51) → (InvR (gi h3 2)) ∧ ∀ h4, h4 = sl h3 19 4 (sumZ (fun i => b2i (dOf (gi h3 2) i = -1)) (gi h3 2 0).toNat 0) → ∀ h5, h5 = si h4 0 53 0 → R32 (x1 + 5) ∧ (0 ≤ x1 + 5 ∧ x1 + 5 < 96) ∧ R32 (x1 + 6) ∧ (0 ≤ x1 + 6 ∧ x1 + 6 < 96) ∧ (gi h 29 (x1 + 6) ≤ gi h 29 (x1 + 5) → Lp_X8_run_92 d b Q x1 h5) ∧ (¬(gi h 29 (x1 + 6) ≤ gi h 29 (x1 + 5)) → R32 (x1 + 5) ∧ WM GM (d + 8) 0 mX8_sumOf [vR (some 0), vI (x1 + 5)] h5 (fun r h6 => ∃ u1, r = some (vI u1) ∧ (gi h6 0 53 = 0 → (u1 = 0 → Q (some (vI 0)) h6) ∧ (¬(u1 = 0) → Lp_X8_run_92 d b Q x1 h6)) ∧ (¬(gi h6 0 53 = 0) → Q (some (vI 0)) h6)))) : WM GM (d + 9) b mX8_run [vR (some 0), vI x1] h Q := by
  refine WM_introE (loc' := [some (vR (some 0)), some (vI x1), none, none, none]) rfl (by decide) (Nat.le_of_ble_eq_true rfl) ?_
  refine J_aload_n rfl dX8_run_0 ?_
  refine J_getS (r := 19) fl_RX8_108 rfl (Or.inl rfl) rfl dX8_run_1 ?_
  refine J_iconst (by decide) dX8_run_4 ?_
  refine J_aload_n rfl dX8_run_5 ?_
  refine J_getS (r := 2) fl_RX8_13 rfl (Or.inl rfl) rfl dX8_run_6 ?_
  refine J_iconst (by decide) dX8_run_9 ?_
  refine J_iaload (Or.inl rfl) (by decide) dX8_run_10 ?_
  refine J_i2l dX8_run_11 ?_
  refine J_lastore (Or.inl rfl) (by decide) dX8_run_12 ?_
  replace K := K _ rfl
  refine J_aload_n rfl dX8_run_13 ?_
  refine J_getS (r := 19) fl_RX8_108 rfl (Or.inl rfl) rfl dX8_run_14 ?_
  refine J_iconst (by decide) dX8_run_17 ?_
  refine J_aload_n rfl dX8_run_18 ?_
  refine J_getIe fl_RX8_525 rfl (Or.inl rfl) gi_xl dX8_run_19 ?_
  refine J_i2l dX8_run_22 ?_
  refine J_lastore (Or.inl rfl) (by decide) dX8_run_23 ?_
  replace K := K _ rfl
  refine J_aload_n rfl dX8_run_24 ?_
  refine J_getS (r := 19) fl_RX8_108 rfl (Or.inl rfl) rfl dX8_run_25 ?_
  refine J_iconst (by decide) dX8_run_28 ?_
  refine J_aload_n rfl dX8_run_29 ?_
  refine J_getIe fl_RX8_528 rfl (Or.inl rfl) (Eq.trans gi_xl gi_xl) dX8_run_30 ?_
  refine J_i2l dX8_run_33 ?_
  refine J_lastore (Or.inl rfl) (by decide) dX8_run_34 ?_
  replace K := K _ rfl
  refine J_aload_n rfl dX8_run_35 ?_
  refine J_getS (r := 19) fl_RX8_108 rfl (Or.inl rfl) rfl dX8_run_36 ?_
  refine J_iconst (by decide) dX8_run_39 ?_
  refine J_aload_n rfl dX8_run_40 ?_
  refine J_b0 (J_callV (b1 := 0) (ci := 8) (vs := []) (rest := [vI 4, vR (some 19)]) (Or.inl rfl) ml_RX8_531 rfl (by decide) rfl rfl (Or.inl rfl) (Nat.le_of_ble_eq_true rfl) rfl dX8_run_41 (c_X8_openHouses  K.1 ?_))
  replace K := K.2
  show J _ _ _ _ _ _ _ [vI _, vI 4, vR (some 19)] _
  refine J_i2l dX8_run_44 ?_
  refine J_lastore (Or.inl rfl) (by decide) dX8_run_45 ?_
  replace K := K _ rfl
  refine J_aload_n rfl dX8_run_46 ?_
  refine J_iconst (by decide) dX8_run_47 ?_
  refine J_putZ fl_RX8_522 rfl (by decide) (Or.inl rfl) dX8_run_48 ?_
  replace K := K _ rfl
  refine J_aload_n rfl dX8_run_51 ?_
  refine J_getS (r := 29) fl_RX8_146 rfl (Or.inl rfl) rfl dX8_run_52 ?_
  refine J_iload_n rfl dX8_run_55 ?_
  refine J_iconst (by decide) dX8_run_56 ?_
  refine J_iadd K.1 dX8_run_57 ?_
  replace K := K.2
  refine J_ialoade (Or.inl rfl) K.1 (Eq.trans (gi_no (by decide)) (Eq.trans gi_xl (Eq.trans gi_xl (Eq.trans gi_xl gi_xl)))) dX8_run_58 ?_
  replace K := K.2
  refine J_aload_n rfl dX8_run_59 ?_
  refine J_getS (r := 29) fl_RX8_146 rfl (Or.inl rfl) rfl dX8_run_60 ?_
  refine J_iload_n rfl dX8_run_63 ?_
  refine J_bipush (by decide) (by decide) dX8_run_64 ?_
  refine J_iadd K.1 dX8_run_66 ?_
  replace K := K.2
  refine J_ialoade (Or.inl rfl) K.1 (Eq.trans (gi_no (by decide)) (Eq.trans gi_xl (Eq.trans gi_xl (Eq.trans gi_xl gi_xl)))) dX8_run_67 ?_
  replace K := K.2
  refine J_icmp_ge (tgt := 92) dX8_run_68 (by decide) (fun c => ?_) (fun c => ?_)
  · replace K := K.1 c
    exact J_forget (loc' := [some (vR (some 0)), some (vI x1), none, none, none]) (And.intro (Or.inr rfl) (And.intro (Or.inr rfl) (And.intro (Or.inl rfl) (And.intro (Or.inl rfl) (And.intro (Or.inl rfl) True.intro))))) K
  · replace K := K.2 c
    refine J_aload_n rfl dX8_run_71 ?_
    refine J_iload_n rfl dX8_run_72 ?_
    refine J_iconst (by decide) dX8_run_73 ?_
    refine J_iadd K.1 dX8_run_74 ?_
    replace K := K.2
    refine J_b0 (J_callV (b1 := 0) (ci := 8) (vs := [vI (x1 + 5)]) (rest := []) (Or.inl rfl) ml_RX8_534 rfl (by decide) rfl rfl (Or.inl rfl) (Nat.le_of_ble_eq_true rfl) rfl dX8_run_75 (WM_mono K (fun r h6 K => ?_)))
    obtain ⟨u1, rfl, K⟩ := K
    show J _ _ _ _ _ _ _ [vI u1] _
    refine J_istore_n (loc' := [some (vR (some 0)), some (vI x1), some (vI u1), none, none]) (by decide) rfl dX8_run_78 ?_
    refine J_aload_n rfl dX8_run_79 ?_
    refine J_getI fl_RX8_522 rfl (Or.inl rfl) dX8_run_80 ?_
    refine J_if_ne (tgt := 90) dX8_run_83 (by decide) (fun c => ?_) (fun c => ?_)
    · replace K := K.2 c
      refine J_iconst (by decide) dX8_run_90 ?_
      exact J_ireturn rfl dX8_run_91 K
    · replace K := K.1 c
      refine J_iload_n rfl dX8_run_86 ?_
      refine J_if_ne (tgt := 92) dX8_run_87 (by decide) (fun c => ?_) (fun c => ?_)
      · replace K := K.2 c
        exact J_forget (loc' := [some (vR (some 0)), some (vI x1), none, none, none]) (And.intro (Or.inr rfl) (And.intro (Or.inr rfl) (And.intro (Or.inl rfl) (And.intro (Or.inl rfl) (And.intro (Or.inl rfl) True.intro))))) K
      · replace K := K.1 c
        refine J_iconst (by decide) dX8_run_90 ?_
        exact J_ireturn rfl dX8_run_91 K
def Lp_X8_sumOf_26 (d b : Nat) (Q : Option AV → AH → Prop)  (y1 : Int) (h : AH) : Prop := J GM (d + 3) b mX8_sumOf Q 26 [some (vR (some 0)), some (vI y1)] [] h
set_option maxRecDepth 20000 in
set_option maxHeartbeats 2000000 in
theorem l_X8_sumOf_26 {d b : Nat} {Q : Option AV → AH → Prop} {h : AH}  {y1 : Int}  (K : ∀ h1, h1 = si h 0 20 1 → (0 ≤ y1 ∧ y1 < 96) ∧ R32 (y1 + 1) ∧ (0 ≤ y1 + 1 ∧ y1 + 1 < 96) ∧ WM GM (d + 2) 0 mX8_reckonAll [vR (some 0), vI (gi h 29 y1), vI (gi h 29 (y1 + 1))] h1 (fun r h2 => r = none ∧ ∀ h3, h3 = si h2 0 20 0 → (gi h2 0 38 = 0 ∨ gi h2 0 38 = 1) ∧ ∀ h4, h4 = si h3 0 53 (gi h2 0 38) → Q (some (vI (zl2i (gl h2 0 39)))) h4)) : Lp_X8_sumOf_26 d b Q y1 h := by
  unfold Lp_X8_sumOf_26
  refine J_aload_n rfl dX8_sumOf_26 ?_
  refine J_iconst (by decide) dX8_sumOf_27 ?_
  refine J_putZ fl_RX8_327 rfl (by decide) (Or.inl rfl) dX8_sumOf_28 ?_
  replace K := K _ rfl
  refine J_aload_n rfl dX8_sumOf_31 ?_
  refine J_aload_n rfl dX8_sumOf_32 ?_
  refine J_getS (r := 29) fl_RX8_146 rfl (Or.inl rfl) rfl dX8_sumOf_33 ?_
  refine J_iload_n rfl dX8_sumOf_36 ?_
  refine J_ialoade (Or.inl rfl) K.1 (gi_no (by decide)) dX8_sumOf_37 ?_
  replace K := K.2
  refine J_aload_n rfl dX8_sumOf_38 ?_
  refine J_getS (r := 29) fl_RX8_146 rfl (Or.inl rfl) rfl dX8_sumOf_39 ?_
  refine J_iload_n rfl dX8_sumOf_42 ?_
  refine J_iconst (by decide) dX8_sumOf_43 ?_
  refine J_iadd K.1 dX8_sumOf_44 ?_
  replace K := K.2
  refine J_ialoade (Or.inl rfl) K.1 (gi_no (by decide)) dX8_sumOf_45 ?_
  replace K := K.2
  refine J_b0 (J_callV (b1 := 0) (ci := 8) (vs := [vI (gi h 29 y1), vI (gi h 29 (y1 + 1))]) (rest := []) (Or.inl rfl) ml_RX8_415 rfl (by decide) rfl rfl (Or.inl rfl) (Nat.le_of_ble_eq_true rfl) rfl dX8_sumOf_46 (WM_mono K (fun r h2 K => ?_)))
  obtain ⟨rfl, K⟩ := K
  show J _ _ _ _ _ _ _ [] _
  refine J_aload_n rfl dX8_sumOf_49 ?_
  refine J_iconst (by decide) dX8_sumOf_50 ?_
  refine J_putZ fl_RX8_327 rfl (by decide) (Or.inl rfl) dX8_sumOf_51 ?_
  replace K := K _ rfl
  refine J_aload_n rfl dX8_sumOf_54 ?_
  refine J_aload_n rfl dX8_sumOf_55 ?_
  refine J_getIe fl_RX8_398 rfl (Or.inl rfl) (gi_nk (by decide)) dX8_sumOf_56 ?_
  refine J_putZ fl_RX8_522 rfl K.1 (Or.inl rfl) dX8_sumOf_59 ?_
  replace K := K.2
  replace K := K _ rfl
  refine J_aload_n rfl dX8_sumOf_62 ?_
  refine J_getLe fl_RX8_412 rfl (Or.inl rfl) (Eq.trans gl_xi gl_xi) dX8_sumOf_63 ?_
  refine J_l2i dX8_sumOf_66 ?_
  exact J_ireturn rfl dX8_sumOf_67 K
set_option maxRecDepth 20000 in
set_option maxHeartbeats 2000000 in
theorem w_X8_sumOf {d b : Nat} {Q : Option AV → AH → Prop} {h : AH} {x1 : Int}  (K : (gi h 0 53 = 0 → (0 ≤ x1 ∧ x1 < 96) ∧ R32 (x1 + 1) ∧ (0 ≤ x1 + 1 ∧ x1 + 1 < 96) ∧ (gi h 29 x1 = gi h 29 (x1 + 1) → Q (some (vI (-1))) h) ∧ (¬(gi h 29 x1 = gi h 29 (x1 + 1)) → Lp_X8_sumOf_26 d b Q x1 h)) ∧ (¬(gi h 0 53 = 0) → Q (some (vI (-1))) h)) : WM GM (d + 3) b mX8_sumOf [vR (some 0), vI x1] h Q := by
  refine WM_introE (loc' := [some (vR (some 0)), some (vI x1)]) rfl (by decide) (Nat.le_of_ble_eq_true rfl) ?_
  refine J_aload_n rfl dX8_sumOf_0 ?_
  refine J_getI fl_RX8_522 rfl (Or.inl rfl) dX8_sumOf_1 ?_
  refine J_if_ne (tgt := 24) dX8_sumOf_4 (by decide) (fun c => ?_) (fun c => ?_)
  · replace K := K.2 c
    refine J_iconst (by decide) dX8_sumOf_24 ?_
    exact J_ireturn rfl dX8_sumOf_25 K
  · replace K := K.1 c
    refine J_aload_n rfl dX8_sumOf_7 ?_
    refine J_getS (r := 29) fl_RX8_146 rfl (Or.inl rfl) rfl dX8_sumOf_8 ?_
    refine J_iload_n rfl dX8_sumOf_11 ?_
    refine J_iaload (Or.inl rfl) K.1 dX8_sumOf_12 ?_
    replace K := K.2
    refine J_aload_n rfl dX8_sumOf_13 ?_
    refine J_getS (r := 29) fl_RX8_146 rfl (Or.inl rfl) rfl dX8_sumOf_14 ?_
    refine J_iload_n rfl dX8_sumOf_17 ?_
    refine J_iconst (by decide) dX8_sumOf_18 ?_
    refine J_iadd K.1 dX8_sumOf_19 ?_
    replace K := K.2
    refine J_iaload (Or.inl rfl) K.1 dX8_sumOf_20 ?_
    replace K := K.2
    refine J_icmp_ne (tgt := 26) dX8_sumOf_21 (by decide) (fun c => ?_) (fun c => ?_)
    · replace K := K.2 c
      exact J_forget (loc' := [some (vR (some 0)), some (vI x1)]) (And.intro (Or.inr rfl) (And.intro (Or.inr rfl) True.intro)) K
    · replace K := K.1 c
      refine J_iconst (by decide) dX8_sumOf_24 ?_
      exact J_ireturn rfl dX8_sumOf_25 K
set_option maxRecDepth 20000 in
set_option maxHeartbeats 2000000 in
theorem w_X8_act {d b : Nat} {Q : Option AV → AH → Prop} {h : AH} {x1 : Int} {x2 : Int} {x3 : Int}  (K : (x1 = 0 → WM GM (d + 7) 0 mX8_launchNow [vR (some 0), vI x2] h (fun r h1 => ∃ u1, r = some (vI u1) ∧ Q (some (vI u1)) h1)) ∧ (¬(x1 = 0) → (x1 = 1 → WM GM (d + 7) 0 mX8_sailNow [vR (some 0), vI x2, vI x3] h (fun r h2 => ∃ u3, r = some (vI u3) ∧ Q (some (vI u3)) h2)) ∧ (¬(x1 = 1) → (x1 = 2 → WM GM (d + 7) 0 mX8_fishNow [vR (some 0), vI x2] h (fun r h3 => ∃ u5, r = some (vI u5) ∧ Q (some (vI u5)) h3)) ∧ (¬(x1 = 2) → (x1 = 3 → WM GM (d + 7) 0 mX8_hangNow [vR (some 0), vI x2, vI x3] h (fun r h4 => ∃ u7, r = some (vI u7) ∧ Q (some (vI u7)) h4)) ∧ (¬(x1 = 3) → WM GM (d + 7) 0 mX8_tideNow [vR (some 0)] h (fun r h5 => ∃ u9, r = some (vI u9) ∧ Q (some (vI u9)) h5)))))) : WM GM (d + 8) b mX8_act [vR (some 0), vI x1, vI x2, vI x3] h Q := by
  refine WM_introE (loc' := [some (vR (some 0)), some (vI x1), some (vI x2), some (vI x3)]) rfl (by decide) (Nat.le_of_ble_eq_true rfl) ?_
  refine J_iload_n rfl dX8_act_0 ?_
  by_cases c : x1 = 0
  · replace K := K.1 c
    refine J_tsIn (tgt := 32) 0 c (by decide) (by decide) rfl dX8_act_1 (by decide) ?_
    refine J_aload_n rfl dX8_act_32 ?_
    refine J_iload_n rfl dX8_act_33 ?_
    refine J_b0 (J_callV (b1 := 0) (ci := 8) (vs := [vI x2]) (rest := []) (Or.inl rfl) ml_RX8_438 rfl (by decide) rfl rfl (Or.inl rfl) (Nat.le_of_ble_eq_true rfl) rfl dX8_act_34 (WM_mono K (fun r h1 K => ?_)))
    obtain ⟨u1, rfl, K⟩ := K
    show J _ _ _ _ _ _ _ [vI u1] _
    exact J_ireturn rfl dX8_act_37 K
  replace K := K.2 c
  have cc2 := c
  clear c
  by_cases c : x1 = 1
  · replace K := K.1 c
    refine J_tsIn (tgt := 38) 1 c (by decide) (by decide) rfl dX8_act_1 (by decide) ?_
    refine J_aload_n rfl dX8_act_38 ?_
    refine J_iload_n rfl dX8_act_39 ?_
    refine J_iload_n rfl dX8_act_40 ?_
    refine J_b0 (J_callV (b1 := 0) (ci := 8) (vs := [vI x2, vI x3]) (rest := []) (Or.inl rfl) ml_RX8_447 rfl (by decide) rfl rfl (Or.inl rfl) (Nat.le_of_ble_eq_true rfl) rfl dX8_act_41 (WM_mono K (fun r h2 K => ?_)))
    obtain ⟨u3, rfl, K⟩ := K
    show J _ _ _ _ _ _ _ [vI u3] _
    exact J_ireturn rfl dX8_act_44 K
  replace K := K.2 c
  have cc4 := c
  clear c
  by_cases c : x1 = 2
  · replace K := K.1 c
    refine J_tsIn (tgt := 45) 2 c (by decide) (by decide) rfl dX8_act_1 (by decide) ?_
    refine J_aload_n rfl dX8_act_45 ?_
    refine J_iload_n rfl dX8_act_46 ?_
    refine J_b0 (J_callV (b1 := 0) (ci := 8) (vs := [vI x2]) (rest := []) (Or.inl rfl) ml_RX8_453 rfl (by decide) rfl rfl (Or.inl rfl) (Nat.le_of_ble_eq_true rfl) rfl dX8_act_47 (WM_mono K (fun r h3 K => ?_)))
    obtain ⟨u5, rfl, K⟩ := K
    show J _ _ _ _ _ _ _ [vI u5] _
    exact J_ireturn rfl dX8_act_50 K
  replace K := K.2 c
  have cc6 := c
  clear c
  by_cases c : x1 = 3
  · replace K := K.1 c
    refine J_tsIn (tgt := 51) 3 c (by decide) (by decide) rfl dX8_act_1 (by decide) ?_
    refine J_aload_n rfl dX8_act_51 ?_
    refine J_iload_n rfl dX8_act_52 ?_
    refine J_iload_n rfl dX8_act_53 ?_
    refine J_b0 (J_callV (b1 := 0) (ci := 8) (vs := [vI x2, vI x3]) (rest := []) (Or.inl rfl) ml_RX8_456 rfl (by decide) rfl rfl (Or.inl rfl) (Nat.le_of_ble_eq_true rfl) rfl dX8_act_54 (WM_mono K (fun r h4 K => ?_)))
    obtain ⟨u7, rfl, K⟩ := K
    show J _ _ _ _ _ _ _ [vI u7] _
    exact J_ireturn rfl dX8_act_57 K
  replace K := K.2 c
  have cc8 := c
  clear c
  refine J_tsOut (tgt := 58) (by omega) dX8_act_1 (by decide) ?_
  refine J_aload_n rfl dX8_act_58 ?_
  refine J_b0 (J_callV (b1 := 0) (ci := 8) (vs := []) (rest := []) (Or.inl rfl) ml_RX8_465 rfl (by decide) rfl rfl (Or.inl rfl) (Nat.le_of_ble_eq_true rfl) rfl dX8_act_59 (WM_mono K (fun r h5 K => ?_)))
  obtain ⟨u9, rfl, K⟩ := K
  show J _ _ _ _ _ _ _ [vI u9] _
  exact J_ireturn rfl dX8_act_62 K
def Lp_X8_giveBack_8 (d b : Nat) (Q : Option AV → AH → Prop)  (y1 : Int) (y2 : Int) (h : AH) : Prop := J GM (d + 1) b mX8_giveBack Q 8 [some (vR (some 0)), some (vI y1), some (vI y2)] [] h
def Lp_X8_giveBack_35 (d b : Nat) (Q : Option AV → AH → Prop)  (y1 : Int) (y2 : Int) (h : AH) : Prop := J GM (d + 1) b mX8_giveBack Q 35 [some (vR (some 0)), some (vI y1), some (vI y2)] [] h
set_option maxRecDepth 20000 in
set_option maxHeartbeats 2000000 in
theorem l_X8_giveBack_8 {d b : Nat} {Q : Option AV → AH → Prop} {h : AH}  {y1 : Int} {y2 : Int}  (K : (944 ≤ y2 → Lp_X8_giveBack_35 d b Q y1 0 h) ∧ (¬(944 ≤ y2) → (0 ≤ y2 ∧ y2 < 944) ∧ (0 ≤ y2 ∧ y2 < 1062) ∧ ∀ h1, h1 = si h 5 y2 (gi h 7 y2) → R32 (y2 + 1) ∧ Lp_X8_giveBack_8 d b Q y1 (y2 + 1) h1)) : Lp_X8_giveBack_8 d b Q y1 y2 h := by
  unfold Lp_X8_giveBack_8
  refine J_iload_n rfl dX8_giveBack_8 ?_
  refine J_sipush (by decide) (by decide) dX8_giveBack_9 ?_
  refine J_icmp_ge (tgt := 33) dX8_giveBack_12 (by decide) (fun c => ?_) (fun c => ?_)
  · replace K := K.1 c
    refine J_iconst (by decide) dX8_giveBack_33 ?_
    refine J_istore_n (loc' := [some (vR (some 0)), some (vI y1), some (vI 0)]) (by decide) rfl dX8_giveBack_34 ?_
    exact J_forget (loc' := [some (vR (some 0)), some (vI y1), some (vI 0)]) (And.intro (Or.inr rfl) (And.intro (Or.inr rfl) (And.intro (Or.inr rfl) True.intro))) K
  · replace K := K.2 c
    refine J_aload_n rfl dX8_giveBack_15 ?_
    refine J_getS (r := 5) fl_RX8_23 rfl (Or.inl rfl) rfl dX8_giveBack_16 ?_
    refine J_iload_n rfl dX8_giveBack_19 ?_
    refine J_aload_n rfl dX8_giveBack_20 ?_
    refine J_getS (r := 7) fl_RX8_29 rfl (Or.inl rfl) rfl dX8_giveBack_21 ?_
    refine J_iload_n rfl dX8_giveBack_24 ?_
    refine J_iaload (Or.inl rfl) K.1 dX8_giveBack_25 ?_
    replace K := K.2
    refine J_iastore (Or.inl rfl) K.1 dX8_giveBack_26 ?_
    replace K := K.2
    replace K := K _ rfl
    refine J_iinc (loc' := [some (vR (some 0)), some (vI y1), some (vI (y2 + 1))]) (by decide) rfl K.1 rfl dX8_giveBack_27 ?_
    replace K := K.2
    refine J_goto (tgt := 8) dX8_giveBack_30 (by decide) ?_
    exact J_forget (loc' := [some (vR (some 0)), some (vI y1), some (vI (y2 + 1))]) (And.intro (Or.inr rfl) (And.intro (Or.inr rfl) (And.intro (Or.inr rfl) True.intro))) K
set_option maxRecDepth 20000 in
set_option maxHeartbeats 2000000 in
theorem l_X8_giveBack_35 {d b : Nat} {Q : Option AV → AH → Prop} {h : AH}  {y1 : Int} {y2 : Int}  (K : (16 ≤ y2 → ∀ h1, h1 = si h 0 8 y1 → Q none h1) ∧ (¬(16 ≤ y2) → (0 ≤ y2 ∧ y2 < 16) ∧ (0 ≤ y2 ∧ y2 < 16) ∧ ∀ h2, h2 = si h 6 y2 (gi h 8 y2) → R32 (y2 + 1) ∧ Lp_X8_giveBack_35 d b Q y1 (y2 + 1) h2)) : Lp_X8_giveBack_35 d b Q y1 y2 h := by
  unfold Lp_X8_giveBack_35
  refine J_iload_n rfl dX8_giveBack_35 ?_
  refine J_bipush (by decide) (by decide) dX8_giveBack_36 ?_
  refine J_icmp_ge (tgt := 59) dX8_giveBack_38 (by decide) (fun c => ?_) (fun c => ?_)
  · replace K := K.1 c
    refine J_aload_n rfl dX8_giveBack_59 ?_
    refine J_iload_n rfl dX8_giveBack_60 ?_
    refine J_putI fl_RX8_167 rfl (Or.inl rfl) dX8_giveBack_61 ?_
    replace K := K _ rfl
    exact J_return rfl dX8_giveBack_64 K
  · replace K := K.2 c
    refine J_aload_n rfl dX8_giveBack_41 ?_
    refine J_getS (r := 6) fl_RX8_26 rfl (Or.inl rfl) rfl dX8_giveBack_42 ?_
    refine J_iload_n rfl dX8_giveBack_45 ?_
    refine J_aload_n rfl dX8_giveBack_46 ?_
    refine J_getS (r := 8) fl_RX8_32 rfl (Or.inl rfl) rfl dX8_giveBack_47 ?_
    refine J_iload_n rfl dX8_giveBack_50 ?_
    refine J_iaload (Or.inl rfl) K.1 dX8_giveBack_51 ?_
    replace K := K.2
    refine J_iastore (Or.inl rfl) K.1 dX8_giveBack_52 ?_
    replace K := K.2
    replace K := K _ rfl
    refine J_iinc (loc' := [some (vR (some 0)), some (vI y1), some (vI (y2 + 1))]) (by decide) rfl K.1 rfl dX8_giveBack_53 ?_
    replace K := K.2
    refine J_goto (tgt := 35) dX8_giveBack_56 (by decide) ?_
    exact J_forget (loc' := [some (vR (some 0)), some (vI y1), some (vI (y2 + 1))]) (And.intro (Or.inr rfl) (And.intro (Or.inr rfl) (And.intro (Or.inr rfl) True.intro))) K
set_option maxRecDepth 20000 in
set_option maxHeartbeats 2000000 in
theorem w_X8_giveBack {d b : Nat} {Q : Option AV → AH → Prop} {h : AH} {x1 : Int}  (K : WM GM d 0 mX8_putBack [vR (some 0), vI 17] h (fun r h1 => r = none ∧ Lp_X8_giveBack_8 d b Q x1 0 h1)) : WM GM (d + 1) b mX8_giveBack [vR (some 0), vI x1] h Q := by
  refine WM_introE (loc' := [some (vR (some 0)), some (vI x1), none]) rfl (by decide) (Nat.le_of_ble_eq_true rfl) ?_
  refine J_aload_n rfl dX8_giveBack_0 ?_
  refine J_bipush (by decide) (by decide) dX8_giveBack_1 ?_
  refine J_b0 (J_callV (b1 := 0) (ci := 8) (vs := [vI 17]) (rest := []) (Or.inl rfl) ml_RX8_178 rfl (by decide) rfl rfl (Or.inl rfl) (Nat.le_of_ble_eq_true rfl) rfl dX8_giveBack_3 (WM_mono K (fun r h1 K => ?_)))
  obtain ⟨rfl, K⟩ := K
  show J _ _ _ _ _ _ _ [] _
  refine J_iconst (by decide) dX8_giveBack_6 ?_
  refine J_istore_n (loc' := [some (vR (some 0)), some (vI x1), some (vI 0)]) (by decide) rfl dX8_giveBack_7 ?_
  exact J_forget (loc' := [some (vR (some 0)), some (vI x1), some (vI 0)]) (And.intro (Or.inr rfl) (And.intro (Or.inr rfl) (And.intro (Or.inr rfl) True.intro))) K
