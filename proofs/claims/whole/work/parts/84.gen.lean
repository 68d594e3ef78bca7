set_option maxRecDepth 20000 in
set_option maxHeartbeats 2000000 in
theorem w_X8_beginText {d b : Nat} {Q : Option AV → AH → Prop} {h : AH} {x1 : Int}  (K : (x1 = 0 ∨ x1 = 1) ∧ ∀ h1, h1 = si h 0 20 x1 → WM GM (d + 2) 0 mX8_begin [vR (some 0)] h1 (fun r h2 => r = none ∧ ∀ h3, h3 = si h2 0 21 0 → ∀ h4, h4 = si h3 0 23 0 → ∀ h5, h5 = si h4 0 26 0 → Q none h5)) : WM GM (d + 3) b mX8_beginText [vR (some 0), vI x1] h Q := by
  refine WM_introE (loc' := [some (vR (some 0)), some (vI x1)]) rfl (by decide) (Nat.le_of_ble_eq_true rfl) ?_
  refine J_aload_n rfl dX8_beginText_0 ?_
  refine J_iload_n rfl dX8_beginText_1 ?_
  refine J_putZ fl_RX8_327 rfl K.1 (Or.inl rfl) dX8_beginText_2 ?_
  replace K := K.2
  replace K := K _ rfl
  refine J_aload_n rfl dX8_beginText_5 ?_
  refine J_b0 (J_callV (b1 := 0) (ci := 8) (vs := []) (rest := []) (Or.inl rfl) ml_RX8_378 rfl (by decide) rfl rfl (Or.inl rfl) (Nat.le_of_ble_eq_true rfl) rfl dX8_beginText_6 (WM_mono K (fun r h2 K => ?_)))
  obtain ⟨rfl, K⟩ := K
  show J _ _ _ _ _ _ _ [] _
  refine J_aload_n rfl dX8_beginText_9 ?_
  refine J_iconst (by decide) dX8_beginText_10 ?_
  refine J_putI fl_RX8_381 rfl (Or.inl rfl) dX8_beginText_11 ?_
  replace K := K _ rfl
  refine J_aload_n rfl dX8_beginText_14 ?_
  refine J_iconst (by decide) dX8_beginText_15 ?_
  refine J_putI fl_RX8_289 rfl (Or.inl rfl) dX8_beginText_16 ?_
  replace K := K _ rfl
  refine J_aload_n rfl dX8_beginText_19 ?_
  refine J_iconst (by decide) dX8_beginText_20 ?_
  refine J_putI fl_RX8_318 rfl (Or.inl rfl) dX8_beginText_21 ?_
  replace K := K _ rfl
  exact J_return rfl dX8_beginText_24 K
def Lp_X8_endText_19 (d b : Nat) (Q : Option AV → AH → Prop)   (h : AH) : Prop := J GM (d + 3) b mX8_endText Q 19 [some (vR (some 0))] [] h
set_option maxRecDepth 20000 in
set_option maxHeartbeats 2000000 in
theorem l_X8_endText_19 {d b : Nat} {Q : Option AV → AH → Prop} {h : AH}    (K : ∀ h1, h1 = si h 0 20 0 → ∀ h2, h2 = si h1 0 13 0 → Q none h2) : Lp_X8_endText_19 d b Q  h := by
  unfold Lp_X8_endText_19
  refine J_aload_n rfl dX8_endText_19 ?_
  refine J_iconst (by decide) dX8_endText_20 ?_
  refine J_putZ fl_RX8_327 rfl (by decide) (Or.inl rfl) dX8_endText_21 ?_
  replace K := K _ rfl
  refine J_aload_n rfl dX8_endText_24 ?_
  refine J_iconst (by decide) dX8_endText_25 ?_
  refine J_putI fl_RX8_238 rfl (Or.inl rfl) dX8_endText_26 ?_
  replace K := K _ rfl
  exact J_return rfl dX8_endText_29 K
set_option maxRecDepth 20000 in
set_option maxHeartbeats 2000000 in
theorem w_X8_endText {d b : Nat} {Q : Option AV → AH → Prop} {h : AH}   (K : (gi h 0 19 = 0 → (gi h 0 16 = 0 → Lp_X8_endText_19 d b Q  h) ∧ (¬(gi h 0 16 = 0) → WM GM (d + 2) 0 mX8_must [vR (some 0), vI 0] h (fun r h1 => r = none ∧ Lp_X8_endText_19 d b Q  h1))) ∧ (¬(gi h 0 19 = 0) → Lp_X8_endText_19 d b Q  h)) : WM GM (d + 3) b mX8_endText [vR (some 0)] h Q := by
  refine WM_introE (loc' := [some (vR (some 0))]) rfl (by decide) (Nat.le_of_ble_eq_true rfl) ?_
  refine J_aload_n rfl dX8_endText_0 ?_
  refine J_getI fl_RX8_250 rfl (Or.inl rfl) dX8_endText_1 ?_
  refine J_if_ne (tgt := 19) dX8_endText_4 (by decide) (fun c => ?_) (fun c => ?_)
  · replace K := K.2 c
    exact J_forget (loc' := [some (vR (some 0))]) (And.intro (Or.inr rfl) True.intro) K
  · replace K := K.1 c
    refine J_aload_n rfl dX8_endText_7 ?_
    refine J_getI fl_RX8_270 rfl (Or.inl rfl) dX8_endText_8 ?_
    refine J_if_eq (tgt := 19) dX8_endText_11 (by decide) (fun c => ?_) (fun c => ?_)
    · replace K := K.1 c
      exact J_forget (loc' := [some (vR (some 0))]) (And.intro (Or.inr rfl) True.intro) K
    · replace K := K.2 c
      refine J_aload_n rfl dX8_endText_14 ?_
      refine J_iconst (by decide) dX8_endText_15 ?_
      refine J_b0 (J_callV (b1 := 0) (ci := 8) (vs := [vI 0]) (rest := []) (Or.inl rfl) ml_RX8_285 rfl (by decide) rfl rfl (Or.inl rfl) (Nat.le_of_ble_eq_true rfl) rfl dX8_endText_16 (WM_mono K (fun r h1 K => ?_)))
      obtain ⟨rfl, K⟩ := K
      show J _ _ _ _ _ _ _ [] _
      exact J_forget (loc' := [some (vR (some 0))]) (And.intro (Or.inr rfl) True.intro) K
def Lp_X8_readLaw_4 (d b : Nat) (Q : Option AV → AH → Prop)  (y1 : Int) (y2 : Int) (h : AH) : Prop := J GM (d + 7) b mX8_readLaw Q 4 [some (vR (some 0)), some (vI y1), some (vI y2), none] [] h
def Lp_X8_readLaw_34 (d b : Nat) (Q : Option AV → AH → Prop)  (y1 : Int) (h : AH) : Prop := J GM (d + 7) b mX8_readLaw Q 34 [some (vR (some 0)), some (vI y1), none, none] [] h
def Lp_X8_readLaw_57 (d b : Nat) (Q : Option AV → AH → Prop)  (y1 : Int) (h : AH) : Prop := J GM (d + 7) b mX8_readLaw Q 57 [some (vR (some 0)), some (vI y1), none, none] [] h
def Lp_X8_readLaw_75 (d b : Nat) (Q : Option AV → AH → Prop)  (y1 : Int) (y2 : Int) (y3 : Int) (h : AH) : Prop := J GM (d + 7) b mX8_readLaw Q 75 [some (vR (some 0)), some (vI y1), some (vI y2), some (vI y3)] [] h
def Lp_X8_readLaw_135 (d b : Nat) (Q : Option AV → AH → Prop)  (y2 : Int) (h : AH) : Prop := J GM (d + 7) b mX8_readLaw Q 135 [some (vR (some 0)), none, some (vI y2), none] [] h
def Lp_X8_readLaw_159 (d b : Nat) (Q : Option AV → AH → Prop)  (y2 : Int) (h : AH) : Prop := J GM (d + 7) b mX8_readLaw Q 159 [some (vR (some 0)), none, some (vI y2), none] [] h
def Lp_X8_readLaw_185 (d b : Nat) (Q : Option AV → AH → Prop)  (y2 : Int) (h : AH) : Prop := J GM (d + 7) b mX8_readLaw Q 185 [some (vR (some 0)), none, some (vI y2), none] [] h
set_option maxRecDepth 20000 in
set_option maxHeartbeats 2000000 in
theorem l_X8_readLaw_4 {d b : Nat} {Q : Option AV → AH → Prop} {h : AH}  {y1 : Int} {y2 : Int}  (K : (4 ≤ y2 → Lp_X8_readLaw_34 d b Q y1 h) ∧ (¬(4 ≤ y2) → (0 ≤ y2 ∧ y2 < 4) ∧ (gi h 0 16 = 1 ∧ gl h 0 17 = (gl h 17 y2) → R32 (y2 + 1) ∧ Lp_X8_readLaw_4 d b Q y2 (y2 + 1) h) ∧ (¬(gi h 0 16 = 1 ∧ gl h 0 17 = (gl h 17 y2)) → R32 (y2 + 1) ∧ Lp_X8_readLaw_4 d b Q y1 (y2 + 1) h))) : Lp_X8_readLaw_4 d b Q y1 y2 h := by
  unfold Lp_X8_readLaw_4
  refine J_iload_n rfl dX8_readLaw_4 ?_
  refine J_iconst (by decide) dX8_readLaw_5 ?_
  refine J_icmp_ge (tgt := 34) dX8_readLaw_6 (by decide) (fun c => ?_) (fun c => ?_)
  · replace K := K.1 c
    exact J_forget (loc' := [some (vR (some 0)), some (vI y1), none, none]) (And.intro (Or.inr rfl) (And.intro (Or.inr rfl) (And.intro (Or.inl rfl) (And.intro (Or.inl rfl) True.intro)))) K
  · replace K := K.2 c
    refine J_aload_n rfl dX8_readLaw_9 ?_
    refine J_aload_n rfl dX8_readLaw_10 ?_
    refine J_getS (r := 17) fl_RX8_102 rfl (Or.inl rfl) rfl dX8_readLaw_11 ?_
    refine J_iload_n rfl dX8_readLaw_14 ?_
    refine J_laload (Or.inl rfl) K.1 dX8_readLaw_15 ?_
    replace K := K.2
    refine J_b0 (J_callV (b1 := 0) (ci := 8) (vs := [vL (gl h 17 y2)]) (rest := []) (Or.inl rfl) ml_RX8_308 rfl (by decide) rfl rfl (Or.inl rfl) (Nat.le_of_ble_eq_true rfl) rfl dX8_readLaw_16 (c_X8_isWord   ?_))
    show J _ _ _ _ _ _ _ [vI (b2i (gi h 0 16 = 1 ∧ gl h 0 17 = (gl h 17 y2)))] _
    refine J_if_eq (tgt := 26) dX8_readLaw_19 (by decide) (fun c => ?_) (fun c => ?_)
    · replace K := K.2 (b2i_0.mp c)
      refine J_iload_n rfl dX8_readLaw_26 ?_
      refine J_istore_n (loc' := [some (vR (some 0)), some (vI y1), some (vI y2), none]) (by decide) rfl dX8_readLaw_27 ?_
      refine J_iinc (loc' := [some (vR (some 0)), some (vI y1), some (vI (y2 + 1)), none]) (by decide) rfl K.1 rfl dX8_readLaw_28 ?_
      replace K := K.2
      refine J_goto (tgt := 4) dX8_readLaw_31 (by decide) ?_
      exact J_forget (loc' := [some (vR (some 0)), some (vI y1), some (vI (y2 + 1)), none]) (And.intro (Or.inr rfl) (And.intro (Or.inr rfl) (And.intro (Or.inr rfl) (And.intro (Or.inl rfl) True.intro)))) K
    · replace K := K.1 (b2i_n0.mp c)
      refine J_iload_n rfl dX8_readLaw_22 ?_
      refine J_goto (tgt := 27) dX8_readLaw_23 (by decide) ?_
      refine J_istore_n (loc' := [some (vR (some 0)), some (vI y2), some (vI y2), none]) (by decide) rfl dX8_readLaw_27 ?_
      refine J_iinc (loc' := [some (vR (some 0)), some (vI y2), some (vI (y2 + 1)), none]) (by decide) rfl K.1 rfl dX8_readLaw_28 ?_
      replace K := K.2
      refine J_goto (tgt := 4) dX8_readLaw_31 (by decide) ?_
      exact J_forget (loc' := [some (vR (some 0)), some (vI y2), some (vI (y2 + 1)), none]) (And.intro (Or.inr rfl) (And.intro (Or.inr rfl) (And.intro (Or.inr rfl) (And.intro (Or.inl rfl) True.intro)))) K
set_option maxRecDepth 20000 in
set_option maxHeartbeats 2000000 in
theorem l_X8_readLaw_34 {d b : Nat} {Q : Option AV → AH → Prop} {h : AH}  {y1 : Int}  (K : (y1 = (-1) → WM GM (d + 6) 0 mX8_must [vR (some 0), vI 0] h (fun r h1 => r = none ∧ Lp_X8_readLaw_57 d b Q y1 h1)) ∧ (¬(y1 = (-1)) → (12 ≤ gi h 0 21 → WM GM (d + 6) 0 mX8_must [vR (some 0), vI 0] h (fun r h2 => r = none ∧ Lp_X8_readLaw_57 d b Q y1 h2)) ∧ (¬(12 ≤ gi h 0 21) → WM GM (d + 6) 0 mX8_must [vR (some 0), vI 1] h (fun r h3 => r = none ∧ Lp_X8_readLaw_57 d b Q y1 h3)))) : Lp_X8_readLaw_34 d b Q y1 h := by
  unfold Lp_X8_readLaw_34
  refine J_aload_n rfl dX8_readLaw_34 ?_
  refine J_iload_n rfl dX8_readLaw_35 ?_
  refine J_iconst (by decide) dX8_readLaw_36 ?_
  refine J_icmp_eq (tgt := 53) dX8_readLaw_37 (by decide) (fun c => ?_) (fun c => ?_)
  · replace K := K.1 c
    refine J_iconst (by decide) dX8_readLaw_53 ?_
    refine J_b0 (J_callV (b1 := 0) (ci := 8) (vs := [vI 0]) (rest := []) (Or.inl rfl) ml_RX8_285 rfl (by decide) rfl rfl (Or.inl rfl) (Nat.le_of_ble_eq_true rfl) rfl dX8_readLaw_54 (WM_mono K (fun r h1 K => ?_)))
    obtain ⟨rfl, K⟩ := K
    show J _ _ _ _ _ _ _ [] _
    exact J_forget (loc' := [some (vR (some 0)), some (vI y1), none, none]) (And.intro (Or.inr rfl) (And.intro (Or.inr rfl) (And.intro (Or.inl rfl) (And.intro (Or.inl rfl) True.intro)))) K
  · replace K := K.2 c
    refine J_aload_n rfl dX8_readLaw_40 ?_
    refine J_getI fl_RX8_381 rfl (Or.inl rfl) dX8_readLaw_41 ?_
    refine J_bipush (by decide) (by decide) dX8_readLaw_44 ?_
    refine J_icmp_ge (tgt := 53) dX8_readLaw_46 (by decide) (fun c => ?_) (fun c => ?_)
    · replace K := K.1 c
      refine J_iconst (by decide) dX8_readLaw_53 ?_
      refine J_b0 (J_callV (b1 := 0) (ci := 8) (vs := [vI 0]) (rest := []) (Or.inl rfl) ml_RX8_285 rfl (by decide) rfl rfl (Or.inl rfl) (Nat.le_of_ble_eq_true rfl) rfl dX8_readLaw_54 (WM_mono K (fun r h2 K => ?_)))
      obtain ⟨rfl, K⟩ := K
      show J _ _ _ _ _ _ _ [] _
      exact J_forget (loc' := [some (vR (some 0)), some (vI y1), none, none]) (And.intro (Or.inr rfl) (And.intro (Or.inr rfl) (And.intro (Or.inl rfl) (And.intro (Or.inl rfl) True.intro)))) K
    · replace K := K.2 c
      refine J_iconst (by decide) dX8_readLaw_49 ?_
      refine J_goto (tgt := 54) dX8_readLaw_50 (by decide) ?_
      refine J_b0 (J_callV (b1 := 0) (ci := 8) (vs := [vI 1]) (rest := []) (Or.inl rfl) ml_RX8_285 rfl (by decide) rfl rfl (Or.inl rfl) (Nat.le_of_ble_eq_true rfl) rfl dX8_readLaw_54 (WM_mono K (fun r h3 K => ?_)))
      obtain ⟨rfl, K⟩ := K
      show J _ _ _ _ _ _ _ [] _
      exact J_forget (loc' := [some (vR (some 0)), some (vI y1), none, none]) (And.intro (Or.inr rfl) (And.intro (Or.inr rfl) (And.intro (Or.inl rfl) (And.intro (Or.inl rfl) True.intro)))) K
set_option maxRecDepth 20000 in
set_option maxHeartbeats 2000000 in
theorem l_X8_readLaw_57 {d b : Nat} {Q : Option AV → AH → Prop} {h : AH}  {y1 : Int}  (K : (gi h 0 19 = 0 → R32 (8 * (gi h 0 21)) ∧ Lp_X8_readLaw_75 d b Q y1 (8 * (gi h 0 21)) 0 h) ∧ (¬(gi h 0 19 = 0) → Q none h)) : Lp_X8_readLaw_57 d b Q y1 h := by
  unfold Lp_X8_readLaw_57
  refine J_aload_n rfl dX8_readLaw_57 ?_
  refine J_getI fl_RX8_250 rfl (Or.inl rfl) dX8_readLaw_58 ?_
  refine J_if_eq (tgt := 65) dX8_readLaw_61 (by decide) (fun c => ?_) (fun c => ?_)
  · replace K := K.1 c
    refine J_bipush (by decide) (by decide) dX8_readLaw_65 ?_
    refine J_aload_n rfl dX8_readLaw_67 ?_
    refine J_getI fl_RX8_381 rfl (Or.inl rfl) dX8_readLaw_68 ?_
    refine J_imul K.1 dX8_readLaw_71 ?_
    replace K := K.2
    refine J_istore_n (loc' := [some (vR (some 0)), some (vI y1), some (vI (8 * (gi h 0 21))), none]) (by decide) rfl dX8_readLaw_72 ?_
    refine J_iconst (by decide) dX8_readLaw_73 ?_
    refine J_istore_n (loc' := [some (vR (some 0)), some (vI y1), some (vI (8 * (gi h 0 21))), some (vI 0)]) (by decide) rfl dX8_readLaw_74 ?_
    exact J_forget (loc' := [some (vR (some 0)), some (vI y1), some (vI (8 * (gi h 0 21))), some (vI 0)]) (And.intro (Or.inr rfl) (And.intro (Or.inr rfl) (And.intro (Or.inr rfl) (And.intro (Or.inr rfl) True.intro)))) K
  · replace K := K.2 c
    exact J_return rfl dX8_readLaw_64 K
set_option maxRecDepth 20000 in
set_option maxHeartbeats 2000000 in
theorem l_X8_readLaw_75 {d b : Nat} {Q : Option AV → AH → Prop} {h : AH}  {y1 : Int} {y2 : Int} {y3 : Int}  (K : (8 ≤ y3 → (0 ≤ y2 ∧ y2 < 96) ∧ ∀ h1, h1 = si h 10 y2 y1 → R32 ((gi h 0 21) + 1) ∧ ∀ h2, h2 = si h1 0 21 ((gi h 0 21) + 1) → R32 (y2 + 3) ∧ (0 ≤ y2 + 3 ∧ y2 + 3 < 96) ∧ ∀ h3, h3 = si h2 10 (y2 + 3) (gi h 0 23) → (2 ≤ y1 → Lp_X8_readLaw_135 d b Q y2 h3) ∧ (¬(2 ≤ y1) → WM GM (d + 6) 0 mX8_readExpression [vR (some 0), vI 0] h3 (fun r h4 => r = none ∧ Lp_X8_readLaw_135 d b Q y2 h4))) ∧ (¬(8 ≤ y3) → R32 (y2 + y3) ∧ (0 ≤ y2 + y3 ∧ y2 + y3 < 96) ∧ ∀ h5, h5 = si h 10 (y2 + y3) 0 → R32 (y3 + 1) ∧ Lp_X8_readLaw_75 d b Q y1 y2 (y3 + 1) h5)) : Lp_X8_readLaw_75 d b Q y1 y2 y3 h := by
  unfold Lp_X8_readLaw_75
  refine J_iload_n rfl dX8_readLaw_75 ?_
  refine J_bipush (by decide) (by decide) dX8_readLaw_76 ?_
  refine J_icmp_ge (tgt := 96) dX8_readLaw_78 (by decide) (fun c => ?_) (fun c => ?_)
  · replace K := K.1 c
    refine J_aload_n rfl dX8_readLaw_96 ?_
    refine J_getS (r := 10) fl_RX8_42 rfl (Or.inl rfl) rfl dX8_readLaw_97 ?_
    refine J_iload_n rfl dX8_readLaw_100 ?_
    refine J_iload_n rfl dX8_readLaw_101 ?_
    refine J_iastore (Or.inl rfl) K.1 dX8_readLaw_102 ?_
    replace K := K.2
    replace K := K _ rfl
    refine J_aload_n rfl dX8_readLaw_103 ?_
    refine J_dup rfl dX8_readLaw_104 ?_
    refine J_getIe fl_RX8_381 rfl (Or.inl rfl) (gi_no (by decide)) dX8_readLaw_105 ?_
    refine J_iconst (by decide) dX8_readLaw_108 ?_
    refine J_iadd K.1 dX8_readLaw_109 ?_
    replace K := K.2
    refine J_putI fl_RX8_381 rfl (Or.inl rfl) dX8_readLaw_110 ?_
    replace K := K _ rfl
    refine J_aload_n rfl dX8_readLaw_113 ?_
    refine J_getS (r := 10) fl_RX8_42 rfl (Or.inl rfl) rfl dX8_readLaw_114 ?_
    refine J_iload_n rfl dX8_readLaw_117 ?_
    refine J_iconst (by decide) dX8_readLaw_118 ?_
    refine J_iadd K.1 dX8_readLaw_119 ?_
    replace K := K.2
    refine J_aload_n rfl dX8_readLaw_120 ?_
    refine J_getIe fl_RX8_289 rfl (Or.inl rfl) (Eq.trans (gi_nk (by decide)) (gi_no (by decide))) dX8_readLaw_121 ?_
    refine J_iastore (Or.inl rfl) K.1 dX8_readLaw_124 ?_
    replace K := K.2
    replace K := K _ rfl
    refine J_iload_n rfl dX8_readLaw_125 ?_
    refine J_iconst (by decide) dX8_readLaw_126 ?_
    refine J_icmp_ge (tgt := 135) dX8_readLaw_127 (by decide) (fun c => ?_) (fun c => ?_)
    · replace K := K.1 c
      exact J_forget (loc' := [some (vR (some 0)), none, some (vI y2), none]) (And.intro (Or.inr rfl) (And.intro (Or.inl rfl) (And.intro (Or.inr rfl) (And.intro (Or.inl rfl) True.intro)))) K
    · replace K := K.2 c
      refine J_aload_n rfl dX8_readLaw_130 ?_
      refine J_iconst (by decide) dX8_readLaw_131 ?_
      refine J_b0 (J_callV (b1 := 0) (ci := 8) (vs := [vI 0]) (rest := []) (Or.inl rfl) ml_RX8_384 rfl (by decide) rfl rfl (Or.inl rfl) (Nat.le_of_ble_eq_true rfl) rfl dX8_readLaw_132 (WM_mono K (fun r h4 K => ?_)))
      obtain ⟨rfl, K⟩ := K
      show J _ _ _ _ _ _ _ [] _
      exact J_forget (loc' := [some (vR (some 0)), none, some (vI y2), none]) (And.intro (Or.inr rfl) (And.intro (Or.inl rfl) (And.intro (Or.inr rfl) (And.intro (Or.inl rfl) True.intro)))) K
  · replace K := K.2 c
    refine J_aload_n rfl dX8_readLaw_81 ?_
    refine J_getS (r := 10) fl_RX8_42 rfl (Or.inl rfl) rfl dX8_readLaw_82 ?_
    refine J_iload_n rfl dX8_readLaw_85 ?_
    refine J_iload_n rfl dX8_readLaw_86 ?_
    refine J_iadd K.1 dX8_readLaw_87 ?_
    replace K := K.2
    refine J_iconst (by decide) dX8_readLaw_88 ?_
    refine J_iastore (Or.inl rfl) K.1 dX8_readLaw_89 ?_
    replace K := K.2
    replace K := K _ rfl
    refine J_iinc (loc' := [some (vR (some 0)), some (vI y1), some (vI y2), some (vI (y3 + 1))]) (by decide) rfl K.1 rfl dX8_readLaw_90 ?_
    replace K := K.2
    refine J_goto (tgt := 75) dX8_readLaw_93 (by decide) ?_
    exact J_forget (loc' := [some (vR (some 0)), some (vI y1), some (vI y2), some (vI (y3 + 1))]) (And.intro (Or.inr rfl) (And.intro (Or.inr rfl) (And.intro (Or.inr rfl) (And.intro (Or.inr rfl) True.intro)))) K
set_option maxRecDepth 20000 in
set_option maxHeartbeats 2000000 in
theorem l_X8_readLaw_135 {d b : Nat} {Q : Option AV → AH → Prop} {h : AH}  {y2 : Int}  (K : R32 (y2 + 4) ∧ (0 ≤ y2 + 4 ∧ y2 + 4 < 96) ∧ ∀ h1, h1 = si h 10 (y2 + 4) (gi h 0 23) → R32 (y2 + 5) ∧ (0 ≤ y2 + 5 ∧ y2 + 5 < 96) ∧ ∀ h2, h2 = si h1 10 (y2 + 5) (gi h 0 23) → Lp_X8_readLaw_159 d b Q y2 h2) : Lp_X8_readLaw_135 d b Q y2 h := by
  unfold Lp_X8_readLaw_135
  refine J_aload_n rfl dX8_readLaw_135 ?_
  refine J_getS (r := 10) fl_RX8_42 rfl (Or.inl rfl) rfl dX8_readLaw_136 ?_
  refine J_iload_n rfl dX8_readLaw_139 ?_
  refine J_iconst (by decide) dX8_readLaw_140 ?_
  refine J_iadd K.1 dX8_readLaw_141 ?_
  replace K := K.2
  refine J_aload_n rfl dX8_readLaw_142 ?_
  refine J_getI fl_RX8_289 rfl (Or.inl rfl) dX8_readLaw_143 ?_
  refine J_iastore (Or.inl rfl) K.1 dX8_readLaw_146 ?_
  replace K := K.2
  replace K := K _ rfl
  refine J_aload_n rfl dX8_readLaw_147 ?_
  refine J_getS (r := 10) fl_RX8_42 rfl (Or.inl rfl) rfl dX8_readLaw_148 ?_
  refine J_iload_n rfl dX8_readLaw_151 ?_
  refine J_iconst (by decide) dX8_readLaw_152 ?_
  refine J_iadd K.1 dX8_readLaw_153 ?_
  replace K := K.2
  refine J_aload_n rfl dX8_readLaw_154 ?_
  refine J_getIe fl_RX8_289 rfl (Or.inl rfl) (gi_no (by decide)) dX8_readLaw_155 ?_
  refine J_iastore (Or.inl rfl) K.1 dX8_readLaw_158 ?_
  replace K := K.2
  replace K := K _ rfl
  exact J_forget (loc' := [some (vR (some 0)), none, some (vI y2), none]) (And.intro (Or.inr rfl) (And.intro (Or.inl rfl) (And.intro (Or.inr rfl) (And.intro (Or.inl rfl) True.intro)))) K
set_option maxRecDepth 20000 in
set_option maxHeartbeats 2000000 in
theorem l_X8_readLaw_159 {d b : Nat} {Q : Option AV → AH → Prop} {h : AH}  {y2 : Int}  (K : (gi h 0 19 = 0 → (gi h 0 16 = 1 ∧ gl h 0 17 = 294 → WM GM (d + 6) 0 mX8_next [vR (some 0)] h (fun r h1 => r = none ∧ WM GM (d + 6) 0 mX8_readExpression [vR (some 0), vI 1] h1 (fun r h2 => r = none ∧ Lp_X8_readLaw_185 d b Q y2 h2))) ∧ (¬(gi h 0 16 = 1 ∧ gl h 0 17 = 294) → Lp_X8_readLaw_185 d b Q y2 h)) ∧ (¬(gi h 0 19 = 0) → Lp_X8_readLaw_185 d b Q y2 h)) : Lp_X8_readLaw_159 d b Q y2 h := by
  unfold Lp_X8_readLaw_159
  refine J_aload_n rfl dX8_readLaw_159 ?_
  refine J_getI fl_RX8_250 rfl (Or.inl rfl) dX8_readLaw_160 ?_
  refine J_if_ne (tgt := 185) dX8_readLaw_163 (by decide) (fun c => ?_) (fun c => ?_)
  · replace K := K.2 c
    exact J_forget (loc' := [some (vR (some 0)), none, some (vI y2), none]) (And.intro (Or.inr rfl) (And.intro (Or.inl rfl) (And.intro (Or.inr rfl) (And.intro (Or.inl rfl) True.intro)))) K
  · replace K := K.1 c
    refine J_aload_n rfl dX8_readLaw_166 ?_
    refine J_ldc2 (n := 294) (by decide) (by decide) kc_RX8_387 dX8_readLaw_167 ?_
    refine J_b0 (J_callV (b1 := 0) (ci := 8) (vs := [vL 294]) (rest := []) (Or.inl rfl) ml_RX8_308 rfl (by decide) rfl rfl (Or.inl rfl) (Nat.le_of_ble_eq_true rfl) rfl dX8_readLaw_170 (c_X8_isWord   ?_))
    show J _ _ _ _ _ _ _ [vI (b2i (gi h 0 16 = 1 ∧ gl h 0 17 = 294))] _
    refine J_if_eq (tgt := 185) dX8_readLaw_173 (by decide) (fun c => ?_) (fun c => ?_)
    · replace K := K.2 (b2i_0.mp c)
      exact J_forget (loc' := [some (vR (some 0)), none, some (vI y2), none]) (And.intro (Or.inr rfl) (And.intro (Or.inl rfl) (And.intro (Or.inr rfl) (And.intro (Or.inl rfl) True.intro)))) K
    · replace K := K.1 (b2i_n0.mp c)
      refine J_aload_n rfl dX8_readLaw_176 ?_
      refine J_b0 (J_callV (b1 := 0) (ci := 8) (vs := []) (rest := []) (Or.inl rfl) ml_RX8_254 rfl (by decide) rfl rfl (Or.inl rfl) (Nat.le_of_ble_eq_true rfl) rfl dX8_readLaw_177 (WM_mono K (fun r h1 K => ?_)))
      obtain ⟨rfl, K⟩ := K
      show J _ _ _ _ _ _ _ [] _
      refine J_aload_n rfl dX8_readLaw_180 ?_
      refine J_iconst (by decide) dX8_readLaw_181 ?_
      refine J_b0 (J_callV (b1 := 0) (ci := 8) (vs := [vI 1]) (rest := []) (Or.inl rfl) ml_RX8_384 rfl (by decide) rfl rfl (Or.inl rfl) (Nat.le_of_ble_eq_true rfl) rfl dX8_readLaw_182 (WM_mono K (fun r h2 K => ?_)))
      obtain ⟨rfl, K⟩ := K
      show J _ _ _ _ _ _ _ [] _
      exact J_forget (loc' := [some (vR (some 0)), none, some (vI y2), none]) (And.intro (Or.inr rfl) (And.intro (Or.inl rfl) (And.intro (Or.inr rfl) (And.intro (Or.inl rfl) True.intro)))) K
set_option maxRecDepth 20000 in
set_option maxHeartbeats 2000000 in
theorem l_X8_readLaw_185 {d b : Nat} {Q : Option AV → AH → Prop} {h : AH}  {y2 : Int}  (K : R32 (y2 + 6) ∧ (0 ≤ y2 + 6 ∧ y2 + 6 < 96) ∧ ∀ h1, h1 = si h 10 (y2 + 6) (gi h 0 23) → Q none h1) : Lp_X8_readLaw_185 d b Q y2 h := by
  unfold Lp_X8_readLaw_185
  refine J_aload_n rfl dX8_readLaw_185 ?_
  refine J_getS (r := 10) fl_RX8_42 rfl (Or.inl rfl) rfl dX8_readLaw_186 ?_
  refine J_iload_n rfl dX8_readLaw_189 ?_
  refine J_bipush (by decide) (by decide) dX8_readLaw_190 ?_
  refine J_iadd K.1 dX8_readLaw_192 ?_
  replace K := K.2
  refine J_aload_n rfl dX8_readLaw_193 ?_
  refine J_getI fl_RX8_289 rfl (Or.inl rfl) dX8_readLaw_194 ?_
  refine J_iastore (Or.inl rfl) K.1 dX8_readLaw_197 ?_
  replace K := K.2
  replace K := K _ rfl
  exact J_return rfl dX8_readLaw_198 K
set_option maxRecDepth 20000 in
set_option maxHeartbeats 2000000 in
theorem w_X8_readLaw {d b : Nat} {Q : Option AV → AH → Prop} {h : AH}   (K : Lp_X8_readLaw_4 d b Q (-1) 0 h) : WM GM (d + 7) b mX8_readLaw [vR (some 0)] h Q := by
  refine WM_introE (loc' := [some (vR (some 0)), none, none, none]) rfl (by decide) (Nat.le_of_ble_eq_true rfl) ?_
  refine J_iconst (by decide) dX8_readLaw_0 ?_
  refine J_istore_n (loc' := [some (vR (some 0)), some (vI (-1)), none, none]) (by decide) rfl dX8_readLaw_1 ?_
  refine J_iconst (by decide) dX8_readLaw_2 ?_
  refine J_istore_n (loc' := [some (vR (some 0)), some (vI (-1)), some (vI 0), none]) (by decide) rfl dX8_readLaw_3 ?_
  exact J_forget (loc' := [some (vR (some 0)), some (vI (-1)), some (vI 0), none]) (And.intro (Or.inr rfl) (And.intro (Or.inr rfl) (And.intro (Or.inr rfl) (And.intro (Or.inl rfl) True.intro)))) K
def Lp_X8_readSum_22 (d b : Nat) (Q : Option AV → AH → Prop)  (y1 : Int) (h : AH) : Prop := J GM (d + 7) b mX8_readSum Q 22 [some (vR (some 0)), some (vI y1)] [] h
set_option maxRecDepth 20000 in
set_option maxHeartbeats 2000000 in
theorem l_X8_readSum_22 {d b : Nat} {Q : Option AV → AH → Prop} {h : AH}  {y1 : Int}  (K : R32 (y1 + 1) ∧ (0 ≤ y1 + 1 ∧ y1 + 1 < 96) ∧ ∀ h1, h1 = si h 29 (y1 + 1) (gi h 0 23) → Q none h1) : Lp_X8_readSum_22 d b Q y1 h := by
  unfold Lp_X8_readSum_22
  refine J_aload_n rfl dX8_readSum_22 ?_
  refine J_getS (r := 29) fl_RX8_146 rfl (Or.inl rfl) rfl dX8_readSum_23 ?_
  refine J_iload_n rfl dX8_readSum_26 ?_
  refine J_iconst (by decide) dX8_readSum_27 ?_
  refine J_iadd K.1 dX8_readSum_28 ?_
  replace K := K.2
  refine J_aload_n rfl dX8_readSum_29 ?_
  refine J_getI fl_RX8_289 rfl (Or.inl rfl) dX8_readSum_30 ?_
  refine J_iastore (Or.inl rfl) K.1 dX8_readSum_33 ?_
  replace K := K.2
  replace K := K _ rfl
  exact J_return rfl dX8_readSum_34 K
set_option maxRecDepth 20000 in
set_option maxHeartbeats 2000000 in
theorem w_X8_readSum {d b : Nat} {Q : Option AV → AH → Prop} {h : AH} {x1 : Int}  (K : (0 ≤ x1 ∧ x1 < 96) ∧ ∀ h1, h1 = si h 29 x1 (gi h 0 23) → (gi h 0 19 = 0 → WM GM (d + 6) 0 mX8_readExpression [vR (some 0), vI 0] h1 (fun r h2 => r = none ∧ Lp_X8_readSum_22 d b Q x1 h2)) ∧ (¬(gi h 0 19 = 0) → Lp_X8_readSum_22 d b Q x1 h1)) : WM GM (d + 7) b mX8_readSum [vR (some 0), vI x1] h Q := by
  refine WM_introE (loc' := [some (vR (some 0)), some (vI x1)]) rfl (by decide) (Nat.le_of_ble_eq_true rfl) ?_
  refine J_aload_n rfl dX8_readSum_0 ?_
  refine J_getS (r := 29) fl_RX8_146 rfl (Or.inl rfl) rfl dX8_readSum_1 ?_
  refine J_iload_n rfl dX8_readSum_4 ?_
  refine J_aload_n rfl dX8_readSum_5 ?_
  refine J_getI fl_RX8_289 rfl (Or.inl rfl) dX8_readSum_6 ?_
  refine J_iastore (Or.inl rfl) K.1 dX8_readSum_9 ?_
  replace K := K.2
  replace K := K _ rfl
  refine J_aload_n rfl dX8_readSum_10 ?_
  refine J_getIe fl_RX8_250 rfl (Or.inl rfl) (gi_no (by decide)) dX8_readSum_11 ?_
  refine J_if_ne (tgt := 22) dX8_readSum_14 (by decide) (fun c => ?_) (fun c => ?_)
  · replace K := K.2 c
    exact J_forget (loc' := [some (vR (some 0)), some (vI x1)]) (And.intro (Or.inr rfl) (And.intro (Or.inr rfl) True.intro)) K
  · replace K := K.1 c
    refine J_aload_n rfl dX8_readSum_17 ?_
    refine J_iconst (by decide) dX8_readSum_18 ?_
    refine J_b0 (J_callV (b1 := 0) (ci := 8) (vs := [vI 0]) (rest := []) (Or.inl rfl) ml_RX8_384 rfl (by decide) rfl rfl (Or.inl rfl) (Nat.le_of_ble_eq_true rfl) rfl dX8_readSum_19 (WM_mono K (fun r h2 K => ?_)))
    obtain ⟨rfl, K⟩ := K
    show J _ _ _ _ _ _ _ [] _
    exact J_forget (loc' := [some (vR (some 0)), some (vI x1)]) (And.intro (Or.inr rfl) (And.intro (Or.inr rfl) True.intro)) K
def Lp_X8_readOrder_4 (d b : Nat) (Q : Option AV → AH → Prop)  (y1 : Int) (y2 : Int) (h : AH) : Prop := J GM (d + 8) b mX8_readOrder Q 4 [some (vR (some 0)), some (vI y1), some (vI y2), none] [] h
def Lp_X8_readOrder_34 (d b : Nat) (Q : Option AV → AH → Prop)  (y1 : Int) (h : AH) : Prop := J GM (d + 8) b mX8_readOrder Q 34 [some (vR (some 0)), some (vI y1), none, none] [] h
def Lp_X8_readOrder_57 (d b : Nat) (Q : Option AV → AH → Prop)  (y1 : Int) (h : AH) : Prop := J GM (d + 8) b mX8_readOrder Q 57 [some (vR (some 0)), some (vI y1), none, none] [] h
def Lp_X8_readOrder_85 (d b : Nat) (Q : Option AV → AH → Prop)  (y1 : Int) (y2 : Int) (y3 : Int) (h : AH) : Prop := J GM (d + 8) b mX8_readOrder Q 85 [some (vR (some 0)), some (vI y1), some (vI y2), some (vI y3)] [] h
def Lp_X8_readOrder_125 (d b : Nat) (Q : Option AV → AH → Prop)  (y1 : Int) (y2 : Int) (h : AH) : Prop := J GM (d + 8) b mX8_readOrder Q 125 [some (vR (some 0)), some (vI y1), some (vI y2), none] [] h
def Lp_X8_readOrder_164 (d b : Nat) (Q : Option AV → AH → Prop)  (y2 : Int) (h : AH) : Prop := J GM (d + 8) b mX8_readOrder Q 164 [some (vR (some 0)), none, some (vI y2), none] [] h
def Lp_X8_readOrder_171 (d b : Nat) (Q : Option AV → AH → Prop)  (y2 : Int) (h : AH) : Prop := J GM (d + 8) b mX8_readOrder Q 171 [some (vR (some 0)), none, some (vI y2), none] [] h
def Lp_X8_readOrder_219 (d b : Nat) (Q : Option AV → AH → Prop)  (y2 : Int) (h : AH) : Prop := J GM (d + 8) b mX8_readOrder Q 219 [some (vR (some 0)), none, some (vI y2), none] [] h
def Lp_X8_readOrder_257 (d b : Nat) (Q : Option AV → AH → Prop)  (y2 : Int) (h : AH) : Prop := J GM (d + 8) b mX8_readOrder Q 257 [some (vR (some 0)), none, some (vI y2), none] [] h
set_option maxRecDepth 20000 in
set_option maxHeartbeats 2000000 in
theorem l_X8_readOrder_4 {d b : Nat} {Q : Option AV → AH → Prop} {h : AH}  {y1 : Int} {y2 : Int}  (K : (5 ≤ y2 → Lp_X8_readOrder_34 d b Q y1 h) ∧ (¬(5 ≤ y2) → (0 ≤ y2 ∧ y2 < 5) ∧ (gi h 0 16 = 1 ∧ gl h 0 17 = (gl h 28 y2) → R32 (y2 + 1) ∧ Lp_X8_readOrder_4 d b Q y2 (y2 + 1) h) ∧ (¬(gi h 0 16 = 1 ∧ gl h 0 17 = (gl h 28 y2)) → R32 (y2 + 1) ∧ Lp_X8_readOrder_4 d b Q y1 (y2 + 1) h))) : Lp_X8_readOrder_4 d b Q y1 y2 h := by
  unfold Lp_X8_readOrder_4
  refine J_iload_n rfl dX8_readOrder_4 ?_
  refine J_iconst (by decide) dX8_readOrder_5 ?_
  refine J_icmp_ge (tgt := 34) dX8_readOrder_6 (by decide) (fun c => ?_) (fun c => ?_)
  · replace K := K.1 c
    exact J_forget (loc' := [some (vR (some 0)), some (vI y1), none, none]) (And.intro (Or.inr rfl) (And.intro (Or.inr rfl) (And.intro (Or.inl rfl) (And.intro (Or.inl rfl) True.intro)))) K
  · replace K := K.2 c
    refine J_aload_n rfl dX8_readOrder_9 ?_
    refine J_aload_n rfl dX8_readOrder_10 ?_
    refine J_getS (r := 28) fl_RX8_143 rfl (Or.inl rfl) rfl dX8_readOrder_11 ?_
    refine J_iload_n rfl dX8_readOrder_14 ?_
    refine J_laload (Or.inl rfl) K.1 dX8_readOrder_15 ?_
    replace K := K.2
    refine J_b0 (J_callV (b1 := 0) (ci := 8) (vs := [vL (gl h 28 y2)]) (rest := []) (Or.inl rfl) ml_RX8_308 rfl (by decide) rfl rfl (Or.inl rfl) (Nat.le_of_ble_eq_true rfl) rfl dX8_readOrder_16 (c_X8_isWord   ?_))
    show J _ _ _ _ _ _ _ [vI (b2i (gi h 0 16 = 1 ∧ gl h 0 17 = (gl h 28 y2)))] _
    refine J_if_eq (tgt := 26) dX8_readOrder_19 (by decide) (fun c => ?_) (fun c => ?_)
    · replace K := K.2 (b2i_0.mp c)
      refine J_iload_n rfl dX8_readOrder_26 ?_
      refine J_istore_n (loc' := [some (vR (some 0)), some (vI y1), some (vI y2), none]) (by decide) rfl dX8_readOrder_27 ?_
      refine J_iinc (loc' := [some (vR (some 0)), some (vI y1), some (vI (y2 + 1)), none]) (by decide) rfl K.1 rfl dX8_readOrder_28 ?_
      replace K := K.2
      refine J_goto (tgt := 4) dX8_readOrder_31 (by decide) ?_
      exact J_forget (loc' := [some (vR (some 0)), some (vI y1), some (vI (y2 + 1)), none]) (And.intro (Or.inr rfl) (And.intro (Or.inr rfl) (And.intro (Or.inr rfl) (And.intro (Or.inl rfl) True.intro)))) K
    · replace K := K.1 (b2i_n0.mp c)
      refine J_iload_n rfl dX8_readOrder_22 ?_
      refine J_goto (tgt := 27) dX8_readOrder_23 (by decide) ?_
      refine J_istore_n (loc' := [some (vR (some 0)), some (vI y2), some (vI y2), none]) (by decide) rfl dX8_readOrder_27 ?_
      refine J_iinc (loc' := [some (vR (some 0)), some (vI y2), some (vI (y2 + 1)), none]) (by decide) rfl K.1 rfl dX8_readOrder_28 ?_
      replace K := K.2
      refine J_goto (tgt := 4) dX8_readOrder_31 (by decide) ?_
      exact J_forget (loc' := [some (vR (some 0)), some (vI y2), some (vI (y2 + 1)), none]) (And.intro (Or.inr rfl) (And.intro (Or.inr rfl) (And.intro (Or.inr rfl) (And.intro (Or.inl rfl) True.intro)))) K
set_option maxRecDepth 20000 in
set_option maxHeartbeats 2000000 in
theorem l_X8_readOrder_34 {d b : Nat} {Q : Option AV → AH → Prop} {h : AH}  {y1 : Int}  (K : (y1 = (-1) → WM GM (d + 7) 0 mX8_must [vR (some 0), vI 0] h (fun r h1 => r = none ∧ Lp_X8_readOrder_57 d b Q y1 h1)) ∧ (¬(y1 = (-1)) → (12 ≤ gi h 0 21 → WM GM (d + 7) 0 mX8_must [vR (some 0), vI 0] h (fun r h2 => r = none ∧ Lp_X8_readOrder_57 d b Q y1 h2)) ∧ (¬(12 ≤ gi h 0 21) → WM GM (d + 7) 0 mX8_must [vR (some 0), vI 1] h (fun r h3 => r = none ∧ Lp_X8_readOrder_57 d b Q y1 h3)))) : Lp_X8_readOrder_34 d b Q y1 h := by
  unfold Lp_X8_readOrder_34
  refine J_aload_n rfl dX8_readOrder_34 ?_
  refine J_iload_n rfl dX8_readOrder_35 ?_
  refine J_iconst (by decide) dX8_readOrder_36 ?_
  refine J_icmp_eq (tgt := 53) dX8_readOrder_37 (by decide) (fun c => ?_) (fun c => ?_)
  · replace K := K.1 c
    refine J_iconst (by decide) dX8_readOrder_53 ?_
    refine J_b0 (J_callV (b1 := 0) (ci := 8) (vs := [vI 0]) (rest := []) (Or.inl rfl) ml_RX8_285 rfl (by decide) rfl rfl (Or.inl rfl) (Nat.le_of_ble_eq_true rfl) rfl dX8_readOrder_54 (WM_mono K (fun r h1 K => ?_)))
    obtain ⟨rfl, K⟩ := K
    show J _ _ _ _ _ _ _ [] _
    exact J_forget (loc' := [some (vR (some 0)), some (vI y1), none, none]) (And.intro (Or.inr rfl) (And.intro (Or.inr rfl) (And.intro (Or.inl rfl) (And.intro (Or.inl rfl) True.intro)))) K
  · replace K := K.2 c
    refine J_aload_n rfl dX8_readOrder_40 ?_
    refine J_getI fl_RX8_381 rfl (Or.inl rfl) dX8_readOrder_41 ?_
    refine J_bipush (by decide) (by decide) dX8_readOrder_44 ?_
    refine J_icmp_ge (tgt := 53) dX8_readOrder_46 (by decide) (fun c => ?_) (fun c => ?_)
    · replace K := K.1 c
      refine J_iconst (by decide) dX8_readOrder_53 ?_
      refine J_b0 (J_callV (b1 := 0) (ci := 8) (vs := [vI 0]) (rest := []) (Or.inl rfl) ml_RX8_285 rfl (by decide) rfl rfl (Or.inl rfl) (Nat.le_of_ble_eq_true rfl) rfl dX8_readOrder_54 (WM_mono K (fun r h2 K => ?_)))
      obtain ⟨rfl, K⟩ := K
      show J _ _ _ _ _ _ _ [] _
      exact J_forget (loc' := [some (vR (some 0)), some (vI y1), none, none]) (And.intro (Or.inr rfl) (And.intro (Or.inr rfl) (And.intro (Or.inl rfl) (And.intro (Or.inl rfl) True.intro)))) K
    · replace K := K.2 c
      refine J_iconst (by decide) dX8_readOrder_49 ?_
      refine J_goto (tgt := 54) dX8_readOrder_50 (by decide) ?_
      refine J_b0 (J_callV (b1 := 0) (ci := 8) (vs := [vI 1]) (rest := []) (Or.inl rfl) ml_RX8_285 rfl (by decide) rfl rfl (Or.inl rfl) (Nat.le_of_ble_eq_true rfl) rfl dX8_readOrder_54 (WM_mono K (fun r h3 K => ?_)))
      obtain ⟨rfl, K⟩ := K
      show J _ _ _ _ _ _ _ [] _
      exact J_forget (loc' := [some (vR (some 0)), some (vI y1), none, none]) (And.intro (Or.inr rfl) (And.intro (Or.inr rfl) (And.intro (Or.inl rfl) (And.intro (Or.inl rfl) True.intro)))) K
set_option maxRecDepth 20000 in
set_option maxHeartbeats 2000000 in
theorem l_X8_readOrder_57 {d b : Nat} {Q : Option AV → AH → Prop} {h : AH}  {y1 : Int}  (K : (gi h 0 19 = 0 → R32 (8 * (gi h 0 21)) ∧ R32 ((gi h 0 21) + 1) ∧ ∀ h1, h1 = si h 0 21 ((gi h 0 21) + 1) → Lp_X8_readOrder_85 d b Q y1 (8 * (gi h 0 21)) 0 h1) ∧ (¬(gi h 0 19 = 0) → Q none h)) : Lp_X8_readOrder_57 d b Q y1 h := by
  unfold Lp_X8_readOrder_57
  refine J_aload_n rfl dX8_readOrder_57 ?_
  refine J_getI fl_RX8_250 rfl (Or.inl rfl) dX8_readOrder_58 ?_
  refine J_if_eq (tgt := 65) dX8_readOrder_61 (by decide) (fun c => ?_) (fun c => ?_)
  · replace K := K.1 c
    refine J_bipush (by decide) (by decide) dX8_readOrder_65 ?_
    refine J_aload_n rfl dX8_readOrder_67 ?_
    refine J_getI fl_RX8_381 rfl (Or.inl rfl) dX8_readOrder_68 ?_
    refine J_imul K.1 dX8_readOrder_71 ?_
    replace K := K.2
    refine J_istore_n (loc' := [some (vR (some 0)), some (vI y1), some (vI (8 * (gi h 0 21))), none]) (by decide) rfl dX8_readOrder_72 ?_
    refine J_aload_n rfl dX8_readOrder_73 ?_
    refine J_dup rfl dX8_readOrder_74 ?_
    refine J_getI fl_RX8_381 rfl (Or.inl rfl) dX8_readOrder_75 ?_
    refine J_iconst (by decide) dX8_readOrder_78 ?_
    refine J_iadd K.1 dX8_readOrder_79 ?_
    replace K := K.2
    refine J_putI fl_RX8_381 rfl (Or.inl rfl) dX8_readOrder_80 ?_
    replace K := K _ rfl
    refine J_iconst (by decide) dX8_readOrder_83 ?_
    refine J_istore_n (loc' := [some (vR (some 0)), some (vI y1), some (vI (8 * (gi h 0 21))), some (vI 0)]) (by decide) rfl dX8_readOrder_84 ?_
    exact J_forget (loc' := [some (vR (some 0)), some (vI y1), some (vI (8 * (gi h 0 21))), some (vI 0)]) (And.intro (Or.inr rfl) (And.intro (Or.inr rfl) (And.intro (Or.inr rfl) (And.intro (Or.inr rfl) True.intro)))) K
  · replace K := K.2 c
    exact J_return rfl dX8_readOrder_64 K
set_option maxRecDepth 20000 in
set_option maxHeartbeats 2000000 in
theorem l_X8_readOrder_85 {d b : Nat} {Q : Option AV → AH → Prop} {h : AH}  {y1 : Int} {y2 : Int} {y3 : Int}  (K : (8 ≤ y3 → (0 ≤ y2 ∧ y2 < 96) ∧ ∀ h1, h1 = si h 29 y2 y1 → (y1 = 4 → Lp_X8_readOrder_125 d b Q y1 y2 h1) ∧ (¬(y1 = 4) → R32 (y2 + 1) ∧ WM GM (d + 7) 0 mX8_readSum [vR (some 0), vI (y2 + 1)] h1 (fun r h2 => r = none ∧ Lp_X8_readOrder_125 d b Q y1 y2 h2))) ∧ (¬(8 ≤ y3) → R32 (y2 + y3) ∧ (0 ≤ y2 + y3 ∧ y2 + y3 < 96) ∧ ∀ h3, h3 = si h 29 (y2 + y3) 0 → R32 (y3 + 1) ∧ Lp_X8_readOrder_85 d b Q y1 y2 (y3 + 1) h3)) : Lp_X8_readOrder_85 d b Q y1 y2 y3 h := by
  unfold Lp_X8_readOrder_85
  refine J_iload_n rfl dX8_readOrder_85 ?_
  refine J_bipush (by decide) (by decide) dX8_readOrder_86 ?_
  refine J_icmp_ge (tgt := 106) dX8_readOrder_88 (by decide) (fun c => ?_) (fun c => ?_)
  · replace K := K.1 c
    refine J_aload_n rfl dX8_readOrder_106 ?_
    refine J_getS (r := 29) fl_RX8_146 rfl (Or.inl rfl) rfl dX8_readOrder_107 ?_
    refine J_iload_n rfl dX8_readOrder_110 ?_
    refine J_iload_n rfl dX8_readOrder_111 ?_
    refine J_iastore (Or.inl rfl) K.1 dX8_readOrder_112 ?_
    replace K := K.2
    replace K := K _ rfl
    refine J_iload_n rfl dX8_readOrder_113 ?_
    refine J_iconst (by decide) dX8_readOrder_114 ?_
    refine J_icmp_eq (tgt := 125) dX8_readOrder_115 (by decide) (fun c => ?_) (fun c => ?_)
    · replace K := K.1 c
      exact J_forget (loc' := [some (vR (some 0)), some (vI y1), some (vI y2), none]) (And.intro (Or.inr rfl) (And.intro (Or.inr rfl) (And.intro (Or.inr rfl) (And.intro (Or.inl rfl) True.intro)))) K
    · replace K := K.2 c
      refine J_aload_n rfl dX8_readOrder_118 ?_
      refine J_iload_n rfl dX8_readOrder_119 ?_
      refine J_iconst (by decide) dX8_readOrder_120 ?_
      refine J_iadd K.1 dX8_readOrder_121 ?_
      replace K := K.2
      refine J_b0 (J_callV (b1 := 0) (ci := 8) (vs := [vI (y2 + 1)]) (rest := []) (Or.inl rfl) ml_RX8_513 rfl (by decide) rfl rfl (Or.inl rfl) (Nat.le_of_ble_eq_true rfl) rfl dX8_readOrder_122 (WM_mono K (fun r h2 K => ?_)))
      obtain ⟨rfl, K⟩ := K
      show J _ _ _ _ _ _ _ [] _
      exact J_forget (loc' := [some (vR (some 0)), some (vI y1), some (vI y2), none]) (And.intro (Or.inr rfl) (And.intro (Or.inr rfl) (And.intro (Or.inr rfl) (And.intro (Or.inl rfl) True.intro)))) K
  · replace K := K.2 c
    refine J_aload_n rfl dX8_readOrder_91 ?_
    refine J_getS (r := 29) fl_RX8_146 rfl (Or.inl rfl) rfl dX8_readOrder_92 ?_
    refine J_iload_n rfl dX8_readOrder_95 ?_
    refine J_iload_n rfl dX8_readOrder_96 ?_
    refine J_iadd K.1 dX8_readOrder_97 ?_
    replace K := K.2
    refine J_iconst (by decide) dX8_readOrder_98 ?_
    refine J_iastore (Or.inl rfl) K.1 dX8_readOrder_99 ?_
    replace K := K.2
    replace K := K _ rfl
    refine J_iinc (loc' := [some (vR (some 0)), some (vI y1), some (vI y2), some (vI (y3 + 1))]) (by decide) rfl K.1 rfl dX8_readOrder_100 ?_
    replace K := K.2
    refine J_goto (tgt := 85) dX8_readOrder_103 (by decide) ?_
    exact J_forget (loc' := [some (vR (some 0)), some (vI y1), some (vI y2), some (vI (y3 + 1))]) (And.intro (Or.inr rfl) (And.intro (Or.inr rfl) (And.intro (Or.inr rfl) (And.intro (Or.inr rfl) True.intro)))) K
set_option maxRecDepth 20000 in
set_option maxHeartbeats 2000000 in
theorem l_X8_readOrder_125 {d b : Nat} {Q : Option AV → AH → Prop} {h : AH}  {y1 : Int} {y2 : Int}  (K : (y1 = 1 → (gi h 0 19 = 0 → (y1 = 1 → WM GM (d + 7) 0 mX8_must [vR (some 0), vI (b2i (gi h 0 16 = 1 ∧ gl h 0 17 = 89))] h (fun r h2 => r = none ∧ Lp_X8_readOrder_164 d b Q y2 h2)) ∧ (¬(y1 = 1) → WM GM (d + 7) 0 mX8_must [vR (some 0), vI (b2i (gi h 0 16 = 1 ∧ gl h 0 17 = 302))] h (fun r h1 => r = none ∧ Lp_X8_readOrder_164 d b Q y2 h1))) ∧ (¬(gi h 0 19 = 0) → Lp_X8_readOrder_164 d b Q y2 h)) ∧ (¬(y1 = 1) → (y1 = 3 → (gi h 0 19 = 0 → (y1 = 1 → WM GM (d + 7) 0 mX8_must [vR (some 0), vI (b2i (gi h 0 16 = 1 ∧ gl h 0 17 = 89))] h (fun r h4 => r = none ∧ Lp_X8_readOrder_164 d b Q y2 h4)) ∧ (¬(y1 = 1) → WM GM (d + 7) 0 mX8_must [vR (some 0), vI (b2i (gi h 0 16 = 1 ∧ gl h 0 17 = 302))] h (fun r h3 => r = none ∧ Lp_X8_readOrder_164 d b Q y2 h3))) ∧ (¬(gi h 0 19 = 0) → Lp_X8_readOrder_164 d b Q y2 h)) ∧ (¬(y1 = 3) → Lp_X8_readOrder_171 d b Q y2 h))) : Lp_X8_readOrder_125 d b Q y1 y2 h := by
  unfold Lp_X8_readOrder_125
  refine J_iload_n rfl dX8_readOrder_125 ?_
  refine J_iconst (by decide) dX8_readOrder_126 ?_
  refine J_icmp_eq (tgt := 135) dX8_readOrder_127 (by decide) (fun c => ?_) (fun c => ?_)
  · replace K := K.1 c
    refine J_aload_n rfl dX8_readOrder_135 ?_
    refine J_getI fl_RX8_250 rfl (Or.inl rfl) dX8_readOrder_136 ?_
    refine J_if_ne (tgt := 164) dX8_readOrder_139 (by decide) (fun c => ?_) (fun c => ?_)
    · replace K := K.2 c
      exact J_forget (loc' := [some (vR (some 0)), none, some (vI y2), none]) (And.intro (Or.inr rfl) (And.intro (Or.inl rfl) (And.intro (Or.inr rfl) (And.intro (Or.inl rfl) True.intro)))) K
    · replace K := K.1 c
      refine J_aload_n rfl dX8_readOrder_142 ?_
      refine J_aload_n rfl dX8_readOrder_143 ?_
      refine J_iload_n rfl dX8_readOrder_144 ?_
      refine J_iconst (by decide) dX8_readOrder_145 ?_
      refine J_icmp_ne (tgt := 155) dX8_readOrder_146 (by decide) (fun c => ?_) (fun c => ?_)
      · replace K := K.2 c
        refine J_ldc2 (n := 302) (by decide) (by decide) kc_RX8_518 dX8_readOrder_155 ?_
        refine J_b0 (J_callV (b1 := 0) (ci := 8) (vs := [vL 302]) (rest := [vR (some 0)]) (Or.inl rfl) ml_RX8_308 rfl (by decide) rfl rfl (Or.inl rfl) (Nat.le_of_ble_eq_true rfl) rfl dX8_readOrder_158 (c_X8_isWord   ?_))
        show J _ _ _ _ _ _ _ [vI (b2i (gi h 0 16 = 1 ∧ gl h 0 17 = 302)), vR (some 0)] _
        refine J_b0 (J_callV (b1 := 0) (ci := 8) (vs := [vI (b2i (gi h 0 16 = 1 ∧ gl h 0 17 = 302))]) (rest := []) (Or.inl rfl) ml_RX8_285 rfl (by decide) rfl rfl (Or.inl rfl) (Nat.le_of_ble_eq_true rfl) rfl dX8_readOrder_161 (WM_mono K (fun r h1 K => ?_)))
        obtain ⟨rfl, K⟩ := K
        show J _ _ _ _ _ _ _ [] _
        exact J_forget (loc' := [some (vR (some 0)), none, some (vI y2), none]) (And.intro (Or.inr rfl) (And.intro (Or.inl rfl) (And.intro (Or.inr rfl) (And.intro (Or.inl rfl) True.intro)))) K
      · replace K := K.1 c
        refine J_ldc2 (n := 89) (by decide) (by decide) kc_RX8_516 dX8_readOrder_149 ?_
        refine J_goto (tgt := 158) dX8_readOrder_152 (by decide) ?_
        refine J_b0 (J_callV (b1 := 0) (ci := 8) (vs := [vL 89]) (rest := [vR (some 0)]) (Or.inl rfl) ml_RX8_308 rfl (by decide) rfl rfl (Or.inl rfl) (Nat.le_of_ble_eq_true rfl) rfl dX8_readOrder_158 (c_X8_isWord   ?_))
        show J _ _ _ _ _ _ _ [vI (b2i (gi h 0 16 = 1 ∧ gl h 0 17 = 89)), vR (some 0)] _
        refine J_b0 (J_callV (b1 := 0) (ci := 8) (vs := [vI (b2i (gi h 0 16 = 1 ∧ gl h 0 17 = 89))]) (rest := []) (Or.inl rfl) ml_RX8_285 rfl (by decide) rfl rfl (Or.inl rfl) (Nat.le_of_ble_eq_true rfl) rfl dX8_readOrder_161 (WM_mono K (fun r h2 K => ?_)))
        obtain ⟨rfl, K⟩ := K
        show J _ _ _ _ _ _ _ [] _
        exact J_forget (loc' := [some (vR (some 0)), none, some (vI y2), none]) (And.intro (Or.inr rfl) (And.intro (Or.inl rfl) (And.intro (Or.inr rfl) (And.intro (Or.inl rfl) True.intro)))) K
  · replace K := K.2 c
    refine J_iload_n rfl dX8_readOrder_130 ?_
    refine J_iconst (by decide) dX8_readOrder_131 ?_
    refine J_icmp_ne (tgt := 171) dX8_readOrder_132 (by decide) (fun c => ?_) (fun c => ?_)
    · replace K := K.2 c
      exact J_forget (loc' := [some (vR (some 0)), none, some (vI y2), none]) (And.intro (Or.inr rfl) (And.intro (Or.inl rfl) (And.intro (Or.inr rfl) (And.intro (Or.inl rfl) True.intro)))) K
    · replace K := K.1 c
      refine J_aload_n rfl dX8_readOrder_135 ?_
      refine J_getI fl_RX8_250 rfl (Or.inl rfl) dX8_readOrder_136 ?_
      refine J_if_ne (tgt := 164) dX8_readOrder_139 (by decide) (fun c => ?_) (fun c => ?_)
      · replace K := K.2 c
        exact J_forget (loc' := [some (vR (some 0)), none, some (vI y2), none]) (And.intro (Or.inr rfl) (And.intro (Or.inl rfl) (And.intro (Or.inr rfl) (And.intro (Or.inl rfl) True.intro)))) K
      · replace K := K.1 c
        refine J_aload_n rfl dX8_readOrder_142 ?_
        refine J_aload_n rfl dX8_readOrder_143 ?_
        refine J_iload_n rfl dX8_readOrder_144 ?_
        refine J_iconst (by decide) dX8_readOrder_145 ?_
        refine J_icmp_ne (tgt := 155) dX8_readOrder_146 (by decide) (fun c => ?_) (fun c => ?_)
        · replace K := K.2 c
          refine J_ldc2 (n := 302) (by decide) (by decide) kc_RX8_518 dX8_readOrder_155 ?_
          refine J_b0 (J_callV (b1 := 0) (ci := 8) (vs := [vL 302]) (rest := [vR (some 0)]) (Or.inl rfl) ml_RX8_308 rfl (by decide) rfl rfl (Or.inl rfl) (Nat.le_of_ble_eq_true rfl) rfl dX8_readOrder_158 (c_X8_isWord   ?_))
          show J _ _ _ _ _ _ _ [vI (b2i (gi h 0 16 = 1 ∧ gl h 0 17 = 302)), vR (some 0)] _
          refine J_b0 (J_callV (b1 := 0) (ci := 8) (vs := [vI (b2i (gi h 0 16 = 1 ∧ gl h 0 17 = 302))]) (rest := []) (Or.inl rfl) ml_RX8_285 rfl (by decide) rfl rfl (Or.inl rfl) (Nat.le_of_ble_eq_true rfl) rfl dX8_readOrder_161 (WM_mono K (fun r h3 K => ?_)))
          obtain ⟨rfl, K⟩ := K
          show J _ _ _ _ _ _ _ [] _
          exact J_forget (loc' := [some (vR (some 0)), none, some (vI y2), none]) (And.intro (Or.inr rfl) (And.intro (Or.inl rfl) (And.intro (Or.inr rfl) (And.intro (Or.inl rfl) True.intro)))) K
        · replace K := K.1 c
          refine J_ldc2 (n := 89) (by decide) (by decide) kc_RX8_516 dX8_readOrder_149 ?_
          refine J_goto (tgt := 158) dX8_readOrder_152 (by decide) ?_
          refine J_b0 (J_callV (b1 := 0) (ci := 8) (vs := [vL 89]) (rest := [vR (some 0)]) (Or.inl rfl) ml_RX8_308 rfl (by decide) rfl rfl (Or.inl rfl) (Nat.le_of_ble_eq_true rfl) rfl dX8_readOrder_158 (c_X8_isWord   ?_))
          show J _ _ _ _ _ _ _ [vI (b2i (gi h 0 16 = 1 ∧ gl h 0 17 = 89)), vR (some 0)] _
          refine J_b0 (J_callV (b1 := 0) (ci := 8) (vs := [vI (b2i (gi h 0 16 = 1 ∧ gl h 0 17 = 89))]) (rest := []) (Or.inl rfl) ml_RX8_285 rfl (by decide) rfl rfl (Or.inl rfl) (Nat.le_of_ble_eq_true rfl) rfl dX8_readOrder_161 (WM_mono K (fun r h4 K => ?_)))
          obtain ⟨rfl, K⟩ := K
          show J _ _ _ _ _ _ _ [] _
          exact J_forget (loc' := [some (vR (some 0)), none, some (vI y2), none]) (And.intro (Or.inr rfl) (And.intro (Or.inl rfl) (And.intro (Or.inr rfl) (And.intro (Or.inl rfl) True.intro)))) K
set_option maxRecDepth 20000 in
set_option maxHeartbeats 2000000 in
theorem l_X8_readOrder_164 {d b : Nat} {Q : Option AV → AH → Prop} {h : AH}  {y2 : Int}  (K : R32 (y2 + 3) ∧ WM GM (d + 7) 0 mX8_readSum [vR (some 0), vI (y2 + 3)] h (fun r h1 => r = none ∧ Lp_X8_readOrder_171 d b Q y2 h1)) : Lp_X8_readOrder_164 d b Q y2 h := by
  unfold Lp_X8_readOrder_164
  refine J_aload_n rfl dX8_readOrder_164 ?_
  refine J_iload_n rfl dX8_readOrder_165 ?_
  refine J_iconst (by decide) dX8_readOrder_166 ?_
  refine J_iadd K.1 dX8_readOrder_167 ?_
  replace K := K.2
  refine J_b0 (J_callV (b1 := 0) (ci := 8) (vs := [vI (y2 + 3)]) (rest := []) (Or.inl rfl) ml_RX8_513 rfl (by decide) rfl rfl (Or.inl rfl) (Nat.le_of_ble_eq_true rfl) rfl dX8_readOrder_168 (WM_mono K (fun r h1 K => ?_)))
  obtain ⟨rfl, K⟩ := K
  show J _ _ _ _ _ _ _ [] _
  exact J_forget (loc' := [some (vR (some 0)), none, some (vI y2), none]) (And.intro (Or.inr rfl) (And.intro (Or.inl rfl) (And.intro (Or.inr rfl) (And.intro (Or.inl rfl) True.intro)))) K
set_option maxRecDepth 20000 in
set_option maxHeartbeats 2000000 in
theorem l_X8_readOrder_171 {d b : Nat} {Q : Option AV → AH → Prop} {h : AH}  {y2 : Int}  (K : R32 (y2 + 7) ∧ (0 ≤ y2 + 7 ∧ y2 + 7 < 96) ∧ ∀ h1, h1 = si h 29 (y2 + 7) 1 → (gi h 0 19 = 0 → (gi h1 0 16 = 1 ∧ gl h1 0 17 = 21279923 → WM GM (d + 7) 0 mX8_next [vR (some 0)] h1 (fun r h2 => r = none ∧ R32 (y2 + 7) ∧ WM GM (d + 7) 0 mX8_number [vR (some 0), vL 1, vL 20] h2 (fun r h3 => ∃ u11, r = some (vI u11) ∧ (0 ≤ y2 + 7 ∧ y2 + 7 < 96) ∧ ∀ h4, h4 = si h3 29 (y2 + 7) u11 → Lp_X8_readOrder_219 d b Q y2 h4))) ∧ (¬(gi h1 0 16 = 1 ∧ gl h1 0 17 = 21279923) → Lp_X8_readOrder_219 d b Q y2 h1)) ∧ (¬(gi h 0 19 = 0) → Lp_X8_readOrder_219 d b Q y2 h1)) : Lp_X8_readOrder_171 d b Q y2 h := by
  unfold Lp_X8_readOrder_171
  refine J_aload_n rfl dX8_readOrder_171 ?_
  refine J_getS (r := 29) fl_RX8_146 rfl (Or.inl rfl) rfl dX8_readOrder_172 ?_
  refine J_iload_n rfl dX8_readOrder_175 ?_
  refine J_bipush (by decide) (by decide) dX8_readOrder_176 ?_
  refine J_iadd K.1 dX8_readOrder_178 ?_
  replace K := K.2
  refine J_iconst (by decide) dX8_readOrder_179 ?_
  refine J_iastore (Or.inl rfl) K.1 dX8_readOrder_180 ?_
  replace K := K.2
  replace K := K _ rfl
  refine J_aload_n rfl dX8_readOrder_181 ?_
  refine J_getIe fl_RX8_250 rfl (Or.inl rfl) (gi_no (by decide)) dX8_readOrder_182 ?_
  refine J_if_ne (tgt := 219) dX8_readOrder_185 (by decide) (fun c => ?_) (fun c => ?_)
  · replace K := K.2 c
    exact J_forget (loc' := [some (vR (some 0)), none, some (vI y2), none]) (And.intro (Or.inr rfl) (And.intro (Or.inl rfl) (And.intro (Or.inr rfl) (And.intro (Or.inl rfl) True.intro)))) K
  · replace K := K.1 c
    refine J_aload_n rfl dX8_readOrder_188 ?_
    refine J_ldc2 (n := 21279923) (by decide) (by decide) kc_RX8_520 dX8_readOrder_189 ?_
    refine J_b0 (J_callV (b1 := 0) (ci := 8) (vs := [vL 21279923]) (rest := []) (Or.inl rfl) ml_RX8_308 rfl (by decide) rfl rfl (Or.inl rfl) (Nat.le_of_ble_eq_true rfl) rfl dX8_readOrder_192 (c_X8_isWord   ?_))
    show J _ _ _ _ _ _ _ [vI _] _
    refine J_if_eq (tgt := 219) dX8_readOrder_195 (by decide) (fun c => ?_) (fun c => ?_)
    · replace K := K.2 (b2i_0.mp c)
      exact J_forget (loc' := [some (vR (some 0)), none, some (vI y2), none]) (And.intro (Or.inr rfl) (And.intro (Or.inl rfl) (And.intro (Or.inr rfl) (And.intro (Or.inl rfl) True.intro)))) K
    · replace K := K.1 (b2i_n0.mp c)
      refine J_aload_n rfl dX8_readOrder_198 ?_
      refine J_b0 (J_callV (b1 := 0) (ci := 8) (vs := []) (rest := []) (Or.inl rfl) ml_RX8_254 rfl (by decide) rfl rfl (Or.inl rfl) (Nat.le_of_ble_eq_true rfl) rfl dX8_readOrder_199 (WM_mono K (fun r h2 K => ?_)))
      obtain ⟨rfl, K⟩ := K
      show J _ _ _ _ _ _ _ [] _
      refine J_aload_n rfl dX8_readOrder_202 ?_
      refine J_getS (r := 29) fl_RX8_146 rfl (Or.inl rfl) rfl dX8_readOrder_203 ?_
      refine J_iload_n rfl dX8_readOrder_206 ?_
      refine J_bipush (by decide) (by decide) dX8_readOrder_207 ?_
      refine J_iadd K.1 dX8_readOrder_209 ?_
      replace K := K.2
      refine J_aload_n rfl dX8_readOrder_210 ?_
      refine J_lconst (x := 1) (by decide) (by decide) dX8_readOrder_211 ?_
      refine J_ldc2 (n := 20) (by decide) (by decide) kc_RX8_302 dX8_readOrder_212 ?_
      refine J_b0 (J_callV (b1 := 0) (ci := 8) (vs := [vL 1, vL 20]) (rest := [vI (y2 + 7), vR (some 29)]) (Or.inl rfl) ml_RX8_345 rfl (by decide) rfl rfl (Or.inl rfl) (Nat.le_of_ble_eq_true rfl) rfl dX8_readOrder_215 (WM_mono K (fun r h3 K => ?_)))
      obtain ⟨u11, rfl, K⟩ := K
      show J _ _ _ _ _ _ _ [vI u11, vI (y2 + 7), vR (some 29)] _
      refine J_iastore (Or.inl rfl) K.1 dX8_readOrder_218 ?_
      replace K := K.2
      replace K := K _ rfl
      exact J_forget (loc' := [some (vR (some 0)), none, some (vI y2), none]) (And.intro (Or.inr rfl) (And.intro (Or.inl rfl) (And.intro (Or.inr rfl) (And.intro (Or.inl rfl) True.intro)))) K
set_option maxRecDepth 20000 in
set_option maxHeartbeats 2000000 in
theorem l_X8_readOrder_219 {d b : Nat} {Q : Option AV → AH → Prop} {h : AH}  {y2 : Int}  (K : R32 (y2 + 5) ∧ (0 ≤ y2 + 5 ∧ y2 + 5 < 96) ∧ ∀ h1, h1 = si h 29 (y2 + 5) (gi h 0 23) → (gi h 0 19 = 0 → (gi h1 0 16 = 1 ∧ gl h1 0 17 = 294 → WM GM (d + 7) 0 mX8_next [vR (some 0)] h1 (fun r h2 => r = none ∧ WM GM (d + 7) 0 mX8_readExpression [vR (some 0), vI 1] h2 (fun r h3 => r = none ∧ Lp_X8_readOrder_257 d b Q y2 h3))) ∧ (¬(gi h1 0 16 = 1 ∧ gl h1 0 17 = 294) → Lp_X8_readOrder_257 d b Q y2 h1)) ∧ (¬(gi h 0 19 = 0) → Lp_X8_readOrder_257 d b Q y2 h1)) : Lp_X8_readOrder_219 d b Q y2 h := by
  unfold Lp_X8_readOrder_219
  refine J_aload_n rfl dX8_readOrder_219 ?_
  refine J_getS (r := 29) fl_RX8_146 rfl (Or.inl rfl) rfl dX8_readOrder_220 ?_
  refine J_iload_n rfl dX8_readOrder_223 ?_
  refine J_iconst (by decide) dX8_readOrder_224 ?_
  refine J_iadd K.1 dX8_readOrder_225 ?_
  replace K := K.2
  refine J_aload_n rfl dX8_readOrder_226 ?_
  refine J_getI fl_RX8_289 rfl (Or.inl rfl) dX8_readOrder_227 ?_
  refine J_iastore (Or.inl rfl) K.1 dX8_readOrder_230 ?_
  replace K := K.2
  replace K := K _ rfl
  refine J_aload_n rfl dX8_readOrder_231 ?_
  refine J_getIe fl_RX8_250 rfl (Or.inl rfl) (gi_no (by decide)) dX8_readOrder_232 ?_
  refine J_if_ne (tgt := 257) dX8_readOrder_235 (by decide) (fun c => ?_) (fun c => ?_)
  · replace K := K.2 c
    exact J_forget (loc' := [some (vR (some 0)), none, some (vI y2), none]) (And.intro (Or.inr rfl) (And.intro (Or.inl rfl) (And.intro (Or.inr rfl) (And.intro (Or.inl rfl) True.intro)))) K
  · replace K := K.1 c
    refine J_aload_n rfl dX8_readOrder_238 ?_
    refine J_ldc2 (n := 294) (by decide) (by decide) kc_RX8_387 dX8_readOrder_239 ?_
    refine J_b0 (J_callV (b1 := 0) (ci := 8) (vs := [vL 294]) (rest := []) (Or.inl rfl) ml_RX8_308 rfl (by decide) rfl rfl (Or.inl rfl) (Nat.le_of_ble_eq_true rfl) rfl dX8_readOrder_242 (c_X8_isWord   ?_))
    show J _ _ _ _ _ _ _ [vI _] _
    refine J_if_eq (tgt := 257) dX8_readOrder_245 (by decide) (fun c => ?_) (fun c => ?_)
    · replace K := K.2 (b2i_0.mp c)
      exact J_forget (loc' := [some (vR (some 0)), none, some (vI y2), none]) (And.intro (Or.inr rfl) (And.intro (Or.inl rfl) (And.intro (Or.inr rfl) (And.intro (Or.inl rfl) True.intro)))) K
    · replace K := K.1 (b2i_n0.mp c)
      refine J_aload_n rfl dX8_readOrder_248 ?_
      refine J_b0 (J_callV (b1 := 0) (ci := 8) (vs := []) (rest := []) (Or.inl rfl) ml_RX8_254 rfl (by decide) rfl rfl (Or.inl rfl) (Nat.le_of_ble_eq_true rfl) rfl dX8_readOrder_249 (WM_mono K (fun r h2 K => ?_)))
      obtain ⟨rfl, K⟩ := K
      show J _ _ _ _ _ _ _ [] _
      refine J_aload_n rfl dX8_readOrder_252 ?_
      refine J_iconst (by decide) dX8_readOrder_253 ?_
      refine J_b0 (J_callV (b1 := 0) (ci := 8) (vs := [vI 1]) (rest := []) (Or.inl rfl) ml_RX8_384 rfl (by decide) rfl rfl (Or.inl rfl) (Nat.le_of_ble_eq_true rfl) rfl dX8_readOrder_254 (WM_mono K (fun r h3 K => ?_)))
      obtain ⟨rfl, K⟩ := K
      show J _ _ _ _ _ _ _ [] _
      exact J_forget (loc' := [some (vR (some 0)), none, some (vI y2), none]) (And.intro (Or.inr rfl) (And.intro (Or.inl rfl) (And.intro (Or.inr rfl) (And.intro (Or.inl rfl) True.intro)))) K
set_option maxRecDepth 20000 in
set_option maxHeartbeats 2000000 in
theorem l_X8_readOrder_257 {d b : Nat} {Q : Option AV → AH → Prop} {h : AH}  {y2 : Int}  (K : R32 (y2 + 6) ∧ (0 ≤ y2 + 6 ∧ y2 + 6 < 96) ∧ ∀ h1, h1 = si h 29 (y2 + 6) (gi h 0 23) → Q none h1) : Lp_X8_readOrder_257 d b Q y2 h := by
  unfold Lp_X8_readOrder_257
  refine J_aload_n rfl dX8_readOrder_257 ?_
  refine J_getS (r := 29) fl_RX8_146 rfl (Or.inl rfl) rfl dX8_readOrder_258 ?_
  refine J_iload_n rfl dX8_readOrder_261 ?_
  refine J_bipush (by decide) (by decide) dX8_readOrder_262 ?_
  refine J_iadd K.1 dX8_readOrder_264 ?_
  replace K := K.2
  refine J_aload_n rfl dX8_readOrder_265 ?_
  refine J_getI fl_RX8_289 rfl (Or.inl rfl) dX8_readOrder_266 ?_
  refine J_iastore (Or.inl rfl) K.1 dX8_readOrder_269 ?_
  replace K := K.2
  replace K := K _ rfl
  exact J_return rfl dX8_readOrder_270 K
set_option maxRecDepth 20000 in
set_option maxHeartbeats 2000000 in
theorem w_X8_readOrder {d b : Nat} {Q : Option AV → AH → Prop} {h : AH}   (K : Lp_X8_readOrder_4 d b Q (-1) 0 h) : WM GM (d + 8) b mX8_readOrder [vR (some 0)] h Q := by
  refine WM_introE (loc' := [some (vR (some 0)), none, none, none]) rfl (by decide) (Nat.le_of_ble_eq_true rfl) ?_
  refine J_iconst (by decide) dX8_readOrder_0 ?_
  refine J_istore_n (loc' := [some (vR (some 0)), some (vI (-1)), none, none]) (by decide) rfl dX8_readOrder_1 ?_
  refine J_iconst (by decide) dX8_readOrder_2 ?_
  refine J_istore_n (loc' := [some (vR (some 0)), some (vI (-1)), some (vI 0), none]) (by decide) rfl dX8_readOrder_3 ?_
  exact J_forget (loc' := [some (vR (some 0)), some (vI (-1)), some (vI 0), none]) (And.intro (Or.inr rfl) (And.intro (Or.inr rfl) (And.intro (Or.inr rfl) (And.intro (Or.inl rfl) True.intro)))) K
def Lp_X8_law_28 (d b : Nat) (Q : Option AV → AH → Prop)   (h : AH) : Prop := J GM (d + 8) b mX8_law Q 28 [some (vR (some 0)), none, none] [] h
def Lp_X8_law_37 (d b : Nat) (Q : Option AV → AH → Prop)   (h : AH) : Prop := J GM (d + 8) b mX8_law Q 37 [some (vR (some 0)), none, none] [] h
def Lp_X8_law_64 (d b : Nat) (Q : Option AV → AH → Prop)   (h : AH) : Prop := J GM (d + 8) b mX8_law Q 64 [some (vR (some 0)), none, none] [] h
def Lp_X8_law_111 (d b : Nat) (Q : Option AV → AH → Prop)  (y1 : Int) (y2 : Int) (h : AH) : Prop := J GM (d + 8) b mX8_law Q 111 [some (vR (some 0)), some (vI y1), some (vI y2)] [] h
def Lp_X8_law_146 (d b : Nat) (Q : Option AV → AH → Prop)  (y1 : Int) (y2 : Int) (h : AH) : Prop := J GM (d + 8) b mX8_law Q 146 [some (vR (some 0)), some (vI y1), some (vI y2)] [] h
set_option maxRecDepth 20000 in
set_option maxHeartbeats 2000000 in
theorem l_X8_law_28 {d b : Nat} {Q : Option AV → AH → Prop} {h : AH}    (K : WM GM (d + 7) 0 mX8_beginText [vR (some 0), vI 0] h (fun r h1 => r = none ∧ WM GM (d + 7) 0 mX8_readLaw [vR (some 0)] h1 (fun r h2 => r = none ∧ Lp_X8_law_37 d b Q  h2))) : Lp_X8_law_28 d b Q  h := by
  unfold Lp_X8_law_28
  refine J_aload_n rfl dX8_law_28 ?_
  refine J_iconst (by decide) dX8_law_29 ?_
  refine J_b0 (J_callV (b1 := 0) (ci := 8) (vs := [vI 0]) (rest := []) (Or.inl rfl) ml_RX8_389 rfl (by decide) rfl rfl (Or.inl rfl) (Nat.le_of_ble_eq_true rfl) rfl dX8_law_30 (WM_mono K (fun r h1 K => ?_)))
  obtain ⟨rfl, K⟩ := K
  show J _ _ _ _ _ _ _ [] _
  refine J_aload_n rfl dX8_law_33 ?_
  refine J_b0 (J_callV (b1 := 0) (ci := 8) (vs := []) (rest := []) (Or.inl rfl) ml_RX8_392 rfl (by decide) rfl rfl (Or.inl rfl) (Nat.le_of_ble_eq_true rfl) rfl dX8_law_34 (WM_mono K (fun r h2 K => ?_)))
  obtain ⟨rfl, K⟩ := K
  show J _ _ _ _ _ _ _ [] _
  exact J_forget (loc' := [some (vR (some 0)), none, none]) (And.intro (Or.inr rfl) (And.intro (Or.inl rfl) (And.intro (Or.inl rfl) True.intro))) K
set_option maxRecDepth 20000 in
set_option maxHeartbeats 2000000 in
theorem l_X8_law_37 {d b : Nat} {Q : Option AV → AH → Prop} {h : AH}    (K : (gi h 0 19 = 0 → (gi h 0 16 = 3 ∧ gl h 0 17 = 59 → WM GM (d + 7) 0 mX8_next [vR (some 0)] h (fun r h1 => r = none ∧ WM GM (d + 7) 0 mX8_readLaw [vR (some 0)] h1 (fun r h2 => r = none ∧ Lp_X8_law_37 d b Q  h2))) ∧ (¬(gi h 0 16 = 3 ∧ gl h 0 17 = 59) → Lp_X8_law_64 d b Q  h)) ∧ (¬(gi h 0 19 = 0) → Lp_X8_law_64 d b Q  h)) : Lp_X8_law_37 d b Q  h := by
  unfold Lp_X8_law_37
  refine J_aload_n rfl dX8_law_37 ?_
  refine J_getI fl_RX8_250 rfl (Or.inl rfl) dX8_law_38 ?_
  refine J_if_ne (tgt := 64) dX8_law_41 (by decide) (fun c => ?_) (fun c => ?_)
  · replace K := K.2 c
    exact J_forget (loc' := [some (vR (some 0)), none, none]) (And.intro (Or.inr rfl) (And.intro (Or.inl rfl) (And.intro (Or.inl rfl) True.intro))) K
  · replace K := K.1 c
    refine J_aload_n rfl dX8_law_44 ?_
    refine J_bipush (by decide) (by decide) dX8_law_45 ?_
    refine J_b0 (J_callV (b1 := 0) (ci := 8) (vs := [vI 59]) (rest := []) (Or.inl rfl) ml_RX8_321 rfl (by decide) rfl rfl (Or.inl rfl) (Nat.le_of_ble_eq_true rfl) rfl dX8_law_47 (c_X8_isSign   ?_))
    show J _ _ _ _ _ _ _ [vI (b2i (gi h 0 16 = 3 ∧ gl h 0 17 = 59))] _
    refine J_if_eq (tgt := 64) dX8_law_50 (by decide) (fun c => ?_) (fun c => ?_)
    · replace K := K.2 (b2i_0.mp c)
      exact J_forget (loc' := [some (vR (some 0)), none, none]) (And.intro (Or.inr rfl) (And.intro (Or.inl rfl) (And.intro (Or.inl rfl) True.intro))) K
    · replace K := K.1 (b2i_n0.mp c)
      refine J_aload_n rfl dX8_law_53 ?_
      refine J_b0 (J_callV (b1 := 0) (ci := 8) (vs := []) (rest := []) (Or.inl rfl) ml_RX8_254 rfl (by decide) rfl rfl (Or.inl rfl) (Nat.le_of_ble_eq_true rfl) rfl dX8_law_54 (WM_mono K (fun r h1 K => ?_)))
      obtain ⟨rfl, K⟩ := K
      show J _ _ _ _ _ _ _ [] _
      refine J_aload_n rfl dX8_law_57 ?_
      refine J_b0 (J_callV (b1 := 0) (ci := 8) (vs := []) (rest := []) (Or.inl rfl) ml_RX8_392 rfl (by decide) rfl rfl (Or.inl rfl) (Nat.le_of_ble_eq_true rfl) rfl dX8_law_58 (WM_mono K (fun r h2 K => ?_)))
      obtain ⟨rfl, K⟩ := K
      show J _ _ _ _ _ _ _ [] _
      refine J_goto (tgt := 37) dX8_law_61 (by decide) ?_
      exact J_forget (loc' := [some (vR (some 0)), none, none]) (And.intro (Or.inr rfl) (And.intro (Or.inl rfl) (And.intro (Or.inl rfl) True.intro))) K
set_option maxRecDepth 20000 in
set_option maxHeartbeats 2000000 in
theorem l_X8_law_64 {d b : Nat} {Q : Option AV → AH → Prop} {h : AH}    (K : WM GM (d + 7) 0 mX8_endText [vR (some 0)] h (fun r h1 => r = none ∧ (gi h1 0 19 = 0 → R32 (900 * (gi h1 2 3)) ∧ R32 (140 + (900 * (gi h1 2 3))) ∧ R32 ((140 + (900 * (gi h1 2 3))) + 1) ∧ (0 ≤ (140 + (900 * (gi h1 2 3))) + 1 ∧ (140 + (900 * (gi h1 2 3))) + 1 < 5540) ∧ ∀ h2, h2 = si h1 2 ((140 + (900 * (gi h1 2 3))) + 1) (gi h1 0 21) → Lp_X8_law_111 d b Q (140 + (900 * (gi h1 2 3))) 0 h2) ∧ (¬(gi h1 0 19 = 0) → (-7 < (-6)) ∧ (∀ i : Int, 0 ≤ i → i < 7 → 0 ≤ gi h1 1 i ∧ gi h1 1 i ≤ 1000000) ∧ ∀ h3, h3 = mTell h1 (-6) → Q (some (vI (-6))) h3))) : Lp_X8_law_64 d b Q  h := by
  unfold Lp_X8_law_64
  refine J_aload_n rfl dX8_law_64 ?_
  refine J_b0 (J_callV (b1 := 0) (ci := 8) (vs := []) (rest := []) (Or.inl rfl) ml_RX8_395 rfl (by decide) rfl rfl (Or.inl rfl) (Nat.le_of_ble_eq_true rfl) rfl dX8_law_65 (WM_mono K (fun r h1 K => ?_)))
  obtain ⟨rfl, K⟩ := K
  show J _ _ _ _ _ _ _ [] _
  refine J_aload_n rfl dX8_law_68 ?_
  refine J_getI fl_RX8_250 rfl (Or.inl rfl) dX8_law_69 ?_
  refine J_if_eq (tgt := 82) dX8_law_72 (by decide) (fun c => ?_) (fun c => ?_)
  · replace K := K.1 c
    refine J_sipush (by decide) (by decide) dX8_law_82 ?_
    refine J_sipush (by decide) (by decide) dX8_law_85 ?_
    refine J_aload_n rfl dX8_law_88 ?_
    refine J_getS (r := 2) fl_RX8_13 rfl (Or.inl rfl) rfl dX8_law_89 ?_
    refine J_iconst (by decide) dX8_law_92 ?_
    refine J_iaload (Or.inl rfl) (by decide) dX8_law_93 ?_
    refine J_imul K.1 dX8_law_94 ?_
    replace K := K.2
    refine J_iadd K.1 dX8_law_95 ?_
    replace K := K.2
    refine J_istore_n (loc' := [some (vR (some 0)), some (vI _), none]) (by decide) rfl dX8_law_96 ?_
    refine J_aload_n rfl dX8_law_97 ?_
    refine J_getS (r := 2) fl_RX8_13 rfl (Or.inl rfl) rfl dX8_law_98 ?_
    refine J_iload_n rfl dX8_law_101 ?_
    refine J_iconst (by decide) dX8_law_102 ?_
    refine J_iadd K.1 dX8_law_103 ?_
    replace K := K.2
    refine J_aload_n rfl dX8_law_104 ?_
    refine J_getI fl_RX8_381 rfl (Or.inl rfl) dX8_law_105 ?_
    refine J_iastore (Or.inl rfl) K.1 dX8_law_108 ?_
    replace K := K.2
    replace K := K _ rfl
    refine J_iconst (by decide) dX8_law_109 ?_
    refine J_istore_n (loc' := [some (vR (some 0)), some (vI _), some (vI 0)]) (by decide) rfl dX8_law_110 ?_
    exact J_forget (loc' := [some (vR (some 0)), some (vI _), some (vI 0)]) (And.intro (Or.inr rfl) (And.intro (Or.inr rfl) (And.intro (Or.inr rfl) True.intro))) K
  · replace K := K.2 c
    refine J_aload_n rfl dX8_law_75 ?_
    refine J_bipush (by decide) (by decide) dX8_law_76 ?_
    refine J_b0 (J_callV (b1 := 0) (ci := 8) (vs := [vI (-6)]) (rest := []) (Or.inl rfl) ml_RX8_170 rfl (by decide) rfl rfl (Or.inl rfl) (Nat.le_of_ble_eq_true rfl) rfl dX8_law_78 (c_X8_tell  K.1 K.2.1 ?_))
    replace K := K.2.2
    replace K := K _ rfl
    show J _ _ _ _ _ _ _ [vI (-6)] _
    exact J_ireturn rfl dX8_law_81 K
set_option maxRecDepth 20000 in
set_option maxHeartbeats 2000000 in
theorem l_X8_law_111 {d b : Nat} {Q : Option AV → AH → Prop} {h : AH}  {y1 : Int} {y2 : Int}  (K : R32 (8 * (gi h 0 21)) ∧ (8 * (gi h 0 21) ≤ y2 → Lp_X8_law_146 d b Q y1 0 h) ∧ (¬(8 * (gi h 0 21) ≤ y2) → R32 (y1 + 2) ∧ R32 ((y1 + 2) + y2) ∧ (0 ≤ y2 ∧ y2 < 96) ∧ (0 ≤ (y1 + 2) + y2 ∧ (y1 + 2) + y2 < 5540) ∧ ∀ h1, h1 = si h 2 ((y1 + 2) + y2) (gi h 10 y2) → R32 (y2 + 1) ∧ Lp_X8_law_111 d b Q y1 (y2 + 1) h1)) : Lp_X8_law_111 d b Q y1 y2 h := by
  unfold Lp_X8_law_111
  refine J_iload_n rfl dX8_law_111 ?_
  refine J_bipush (by decide) (by decide) dX8_law_112 ?_
  refine J_aload_n rfl dX8_law_114 ?_
  refine J_getI fl_RX8_381 rfl (Or.inl rfl) dX8_law_115 ?_
  refine J_imul K.1 dX8_law_118 ?_
  replace K := K.2
  refine J_icmp_ge (tgt := 144) dX8_law_119 (by decide) (fun c => ?_) (fun c => ?_)
  · replace K := K.1 c
    refine J_iconst (by decide) dX8_law_144 ?_
    refine J_istore_n (loc' := [some (vR (some 0)), some (vI y1), some (vI 0)]) (by decide) rfl dX8_law_145 ?_
    exact J_forget (loc' := [some (vR (some 0)), some (vI y1), some (vI 0)]) (And.intro (Or.inr rfl) (And.intro (Or.inr rfl) (And.intro (Or.inr rfl) True.intro))) K
  · replace K := K.2 c
    refine J_aload_n rfl dX8_law_122 ?_
    refine J_getS (r := 2) fl_RX8_13 rfl (Or.inl rfl) rfl dX8_law_123 ?_
    refine J_iload_n rfl dX8_law_126 ?_
    refine J_iconst (by decide) dX8_law_127 ?_
    refine J_iadd K.1 dX8_law_128 ?_
    replace K := K.2
    refine J_iload_n rfl dX8_law_129 ?_
    refine J_iadd K.1 dX8_law_130 ?_
    replace K := K.2
    refine J_aload_n rfl dX8_law_131 ?_
    refine J_getS (r := 10) fl_RX8_42 rfl (Or.inl rfl) rfl dX8_law_132 ?_
    refine J_iload_n rfl dX8_law_135 ?_
    refine J_iaload (Or.inl rfl) K.1 dX8_law_136 ?_
    replace K := K.2
    refine J_iastore (Or.inl rfl) K.1 dX8_law_137 ?_
    replace K := K.2
    replace K := K _ rfl
    refine J_iinc (loc' := [some (vR (some 0)), some (vI y1), some (vI (y2 + 1))]) (by decide) rfl K.1 rfl dX8_law_138 ?_
    replace K := K.2
    refine J_goto (tgt := 111) dX8_law_141 (by decide) ?_
    exact J_forget (loc' := [some (vR (some 0)), some (vI y1), some (vI (y2 + 1))]) (And.intro (Or.inr rfl) (And.intro (Or.inr rfl) (And.intro (Or.inr rfl) True.intro))) K
set_option maxRecDepth 20000 in
set_option maxHeartbeats 2000000 in
theorem l_X8_law_146 {d b : Nat} {Q : Option AV → AH → Prop} {h : AH}  {y1 : Int} {y2 : Int}  (K : (gi h 0 23 ≤ y2 → R32 ((gi h 2 3) + 1) ∧ ∀ h1, h1 = si h 2 3 ((gi h 2 3) + 1) → R32 (((gi h 2 3) + 1) - 1) ∧ (-7 < (((gi h 2 3) + 1) - 1)) ∧ (∀ i : Int, 0 ≤ i → i < 7 → 0 ≤ gi h1 1 i ∧ gi h1 1 i ≤ 1000000) ∧ ∀ h2, h2 = mTell h1 (((gi h 2 3) + 1) - 1) → Q (some (vI (((gi h 2 3) + 1) - 1))) h2) ∧ (¬(gi h 0 23 ≤ y2) → R32 (y1 + 98) ∧ R32 (2 * y2) ∧ R32 ((y1 + 98) + (2 * y2)) ∧ (0 ≤ y2 ∧ y2 < 400) ∧ (0 ≤ (y1 + 98) + (2 * y2) ∧ (y1 + 98) + (2 * y2) < 5540) ∧ ∀ h3, h3 = si h 2 ((y1 + 98) + (2 * y2)) (gi h 11 y2) → R32 (y1 + 98) ∧ R32 (2 * y2) ∧ R32 ((y1 + 98) + (2 * y2)) ∧ R32 (((y1 + 98) + (2 * y2)) + 1) ∧ (0 ≤ y2 ∧ y2 < 400) ∧ (0 ≤ ((y1 + 98) + (2 * y2)) + 1 ∧ ((y1 + 98) + (2 * y2)) + 1 < 5540) ∧ ∀ h4, h4 = si h3 2 (((y1 + 98) + (2 * y2)) + 1) (gi h 12 y2) → R32 (y2 + 1) ∧ Lp_X8_law_146 d b Q y1 (y2 + 1) h4)) : Lp_X8_law_146 d b Q y1 y2 h := by
  unfold Lp_X8_law_146
  refine J_iload_n rfl dX8_law_146 ?_
  refine J_aload_n rfl dX8_law_147 ?_
  refine J_getI fl_RX8_289 rfl (Or.inl rfl) dX8_law_148 ?_
  refine J_icmp_ge (tgt := 200) dX8_law_151 (by decide) (fun c => ?_) (fun c => ?_)
  · replace K := K.1 c
    refine J_aload_n rfl dX8_law_200 ?_
    refine J_getS (r := 2) fl_RX8_13 rfl (Or.inl rfl) rfl dX8_law_201 ?_
    refine J_iconst (by decide) dX8_law_204 ?_
    refine J_dup2 rfl rfl dX8_law_205 ?_
    refine J_iaload (Or.inl rfl) (by decide) dX8_law_206 ?_
    refine J_iconst (by decide) dX8_law_207 ?_
    refine J_iadd K.1 dX8_law_208 ?_
    replace K := K.2
    refine J_iastore (Or.inl rfl) (by decide) dX8_law_209 ?_
    replace K := K _ rfl
    refine J_aload_n rfl dX8_law_210 ?_
    refine J_aload_n rfl dX8_law_211 ?_
    refine J_getS (r := 2) fl_RX8_13 rfl (Or.inl rfl) rfl dX8_law_212 ?_
    refine J_iconst (by decide) dX8_law_215 ?_
    refine J_ialoade (Or.inl rfl) (by decide) gi_eq dX8_law_216 ?_
    refine J_iconst (by decide) dX8_law_217 ?_
    refine J_isub K.1 dX8_law_218 ?_
    replace K := K.2
    refine J_b0 (J_callV (b1 := 0) (ci := 8) (vs := [vI (((gi h 2 3) + 1) - 1)]) (rest := []) (Or.inl rfl) ml_RX8_170 rfl (by decide) rfl rfl (Or.inl rfl) (Nat.le_of_ble_eq_true rfl) rfl dX8_law_219 (c_X8_tell  K.1 K.2.1 ?_))
    replace K := K.2.2
    replace K := K _ rfl
    show J _ _ _ _ _ _ _ [vI (((gi h 2 3) + 1) - 1)] _
    exact J_ireturn rfl dX8_law_222 K
  · replace K := K.2 c
    refine J_aload_n rfl dX8_law_154 ?_
    refine J_getS (r := 2) fl_RX8_13 rfl (Or.inl rfl) rfl dX8_law_155 ?_
    refine J_iload_n rfl dX8_law_158 ?_
    refine J_bipush (by decide) (by decide) dX8_law_159 ?_
    refine J_iadd K.1 dX8_law_161 ?_
    replace K := K.2
    refine J_iconst (by decide) dX8_law_162 ?_
    refine J_iload_n rfl dX8_law_163 ?_
    refine J_imul K.1 dX8_law_164 ?_
    replace K := K.2
    refine J_iadd K.1 dX8_law_165 ?_
    replace K := K.2
    refine J_aload_n rfl dX8_law_166 ?_
    refine J_getS (r := 11) fl_RX8_45 rfl (Or.inl rfl) rfl dX8_law_167 ?_
    refine J_iload_n rfl dX8_law_170 ?_
    refine J_iaload (Or.inl rfl) K.1 dX8_law_171 ?_
    replace K := K.2
    refine J_iastore (Or.inl rfl) K.1 dX8_law_172 ?_
    replace K := K.2
    replace K := K _ rfl
    refine J_aload_n rfl dX8_law_173 ?_
    refine J_getS (r := 2) fl_RX8_13 rfl (Or.inl rfl) rfl dX8_law_174 ?_
    refine J_iload_n rfl dX8_law_177 ?_
    refine J_bipush (by decide) (by decide) dX8_law_178 ?_
    refine J_iadd K.1 dX8_law_180 ?_
    replace K := K.2
    refine J_iconst (by decide) dX8_law_181 ?_
    refine J_iload_n rfl dX8_law_182 ?_
    refine J_imul K.1 dX8_law_183 ?_
    replace K := K.2
    refine J_iadd K.1 dX8_law_184 ?_
    replace K := K.2
    refine J_iconst (by decide) dX8_law_185 ?_
    refine J_iadd K.1 dX8_law_186 ?_
    replace K := K.2
    refine J_aload_n rfl dX8_law_187 ?_
    refine J_getS (r := 12) fl_RX8_48 rfl (Or.inl rfl) rfl dX8_law_188 ?_
    refine J_iload_n rfl dX8_law_191 ?_
    refine J_ialoade (Or.inl rfl) K.1 (gi_no (by decide)) dX8_law_192 ?_
    replace K := K.2
    refine J_iastore (Or.inl rfl) K.1 dX8_law_193 ?_
    replace K := K.2
    replace K := K _ rfl
    refine J_iinc (loc' := [some (vR (some 0)), some (vI y1), some (vI (y2 + 1))]) (by decide) rfl K.1 rfl dX8_law_194 ?_
    replace K := K.2
    refine J_goto (tgt := 146) dX8_law_197 (by decide) ?_
    exact J_forget (loc' := [some (vR (some 0)), some (vI y1), some (vI (y2 + 1))]) (And.intro (Or.inr rfl) (And.intro (Or.inr rfl) (And.intro (Or.inr rfl) True.intro))) K
set_option maxRecDepth 20000 in
set_option maxHeartbeats 2000000 in
theorem w_X8_law {d b : Nat} {Q : Option AV → AH → Prop} {h : AH}   (K : ∀ h1, h1 = si h 0 0 0 → (gi h 2 3 = 6 → ∀ h2, h2 = si h1 0 13 0 → (-7 < (-5)) ∧ (∀ i : Int, 0 ≤ i → i < 7 → 0 ≤ gi h2 1 i ∧ gi h2 1 i ≤ 1000000) ∧ ∀ h3, h3 = mTell h2 (-5) → Q (some (vI (-5))) h3) ∧ (¬(gi h 2 3 = 6) → Lp_X8_law_28 d b Q  h1)) : WM GM (d + 8) b mX8_law [vR (some 0)] h Q := by
  refine WM_introE (loc' := [some (vR (some 0)), none, none]) rfl (by decide) (Nat.le_of_ble_eq_true rfl) ?_
  refine J_aload_n rfl dX8_law_0 ?_
  refine J_iconst (by decide) dX8_law_1 ?_
  refine J_putI fl_RX8_161 rfl (Or.inl rfl) dX8_law_2 ?_
  replace K := K _ rfl
  refine J_aload_n rfl dX8_law_5 ?_
  refine J_getS (r := 2) fl_RX8_13 rfl (Or.inl rfl) rfl dX8_law_6 ?_
  refine J_iconst (by decide) dX8_law_9 ?_
  refine J_ialoade (Or.inl rfl) (by decide) (gi_no (by decide)) dX8_law_10 ?_
  refine J_bipush (by decide) (by decide) dX8_law_11 ?_
  refine J_icmp_ne (tgt := 28) dX8_law_13 (by decide) (fun c => ?_) (fun c => ?_)
  · replace K := K.2 c
    exact J_forget (loc' := [some (vR (some 0)), none, none]) (And.intro (Or.inr rfl) (And.intro (Or.inl rfl) (And.intro (Or.inl rfl) True.intro))) K
  · replace K := K.1 c
    refine J_aload_n rfl dX8_law_16 ?_
    refine J_iconst (by decide) dX8_law_17 ?_
    refine J_putI fl_RX8_238 rfl (Or.inl rfl) dX8_law_18 ?_
    replace K := K _ rfl
    refine J_aload_n rfl dX8_law_21 ?_
    refine J_bipush (by decide) (by decide) dX8_law_22 ?_
    refine J_b0 (J_callV (b1 := 0) (ci := 8) (vs := [vI (-5)]) (rest := []) (Or.inl rfl) ml_RX8_170 rfl (by decide) rfl rfl (Or.inl rfl) (Nat.le_of_ble_eq_true rfl) rfl dX8_law_24 (c_X8_tell  K.1 K.2.1 ?_))
    replace K := K.2.2
    replace K := K _ rfl
    show J _ _ _ _ _ _ _ [vI (-5)] _
    exact J_ireturn rfl dX8_law_27 K
