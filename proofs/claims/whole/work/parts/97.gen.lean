def Lp_X1_learn_41 (d b : Nat) (Q : Option AV → AH → Prop) (o : Nat) (y4 : Int) (h : AH) : Prop := J GX (d + 2) b mX1_learn Q 41 [some (vR (some 38)), some (vR (some o)), none, none, some (vI y4), none] [] h
def Lp_X1_learn_82 (d b : Nat) (Q : Option AV → AH → Prop) (o : Nat) (y4 : Int) (y5 : Int) (h : AH) : Prop := J GX (d + 2) b mX1_learn Q 82 [some (vR (some 38)), some (vR (some o)), none, none, some (vI y4), some (vI y5)] [] h
def Lp_X1_learn_108 (d b : Nat) (Q : Option AV → AH → Prop) (o : Nat) (y4 : Int) (y5 : Int) (h : AH) : Prop := J GX (d + 2) b mX1_learn Q 108 [some (vR (some 38)), some (vR (some o)), none, none, some (vI y4), some (vI y5)] [] h
def Lp_X1_learn_134 (d b : Nat) (Q : Option AV → AH → Prop) (o : Nat) (y4 : Int) (h : AH) : Prop := J GX (d + 2) b mX1_learn Q 134 [some (vR (some 38)), some (vR (some o)), none, none, some (vI y4), none] [] h
set_option maxRecDepth 20000 in
set_option maxHeartbeats 2000000 in
theorem l_X1_learn_41 {d b : Nat} {Q : Option AV → AH → Prop} {h : AH} {o : Nat} {y4 : Int} (ho : isl o) (K : (8 ≤ y4 → Q none h) ∧ (¬(8 ≤ y4) → R32 (14 + y4) ∧ ((0 : Int) ≤ y4 ∧ y4 < gi h o 2 → (0 ≤ y4 ∧ y4 < 8) ∧ (0 ≤ 14 + y4 ∧ 14 + y4 < 38) ∧ ∀ h2, h2 = si h 39 (14 + y4) (gi h (o + 7) y4) → Lp_X1_learn_82 d b Q o y4 (b2i ((0 : Int) ≤ y4 ∧ y4 < gi h o 2)) h2) ∧ (¬((0 : Int) ≤ y4 ∧ y4 < gi h o 2) → (0 ≤ 14 + y4 ∧ 14 + y4 < 38) ∧ ∀ h1, h1 = si h 39 (14 + y4) (-1) → Lp_X1_learn_82 d b Q o y4 (b2i ((0 : Int) ≤ y4 ∧ y4 < gi h o 2)) h1))) : Lp_X1_learn_41 d b Q o y4 h := by
  unfold Lp_X1_learn_41
  refine J_iload rfl dX1_learn_41 ?_
  refine J_bipush (by decide) (by decide) dX1_learn_43 ?_
  refine J_icmp_ge (tgt := 140) dX1_learn_45 (by decide) (fun c => ?_) (fun c => ?_)
  · replace K := K.1 c
    exact J_return rfl dX1_learn_140 K
  · replace K := K.2 c
    refine J_aload_n rfl dX1_learn_48 ?_
    refine J_iload rfl dX1_learn_49 ?_
    refine J_b0 (J_callV (b1 := 0) (ci := 0) (vs := [vI y4]) (rest := []) (Or.inr rfl) ml_RX1_28 rfl (by decide) rfl rfl (Or.inl (gx_isl ho)) (Nat.le_of_ble_eq_true rfl) rfl dX1_learn_51 (c_X0_isDoor ho  ?_))
    show J _ _ _ _ _ _ _ [vI (b2i ((0 : Int) ≤ y4 ∧ y4 < gi h o 2))] _
    refine J_istore (loc' := [some (vR (some 38)), some (vR (some o)), none, none, some (vI y4), some (vI (b2i ((0 : Int) ≤ y4 ∧ y4 < gi h o 2)))]) (by decide) rfl dX1_learn_54 ?_
    refine J_aload_n rfl dX1_learn_56 ?_
    refine J_getS (r := 39) fl_RX1_9 rfl (Or.inl rfl) rfl dX1_learn_57 ?_
    refine J_bipush (by decide) (by decide) dX1_learn_60 ?_
    refine J_iload rfl dX1_learn_62 ?_
    refine J_iadd K.1 dX1_learn_64 ?_
    replace K := K.2
    refine J_iload rfl dX1_learn_65 ?_
    refine J_if_eq (tgt := 80) dX1_learn_67 (by decide) (fun c => ?_) (fun c => ?_)
    · replace K := K.2 (b2i_0.mp c)
      refine J_iconst (by decide) dX1_learn_80 ?_
      refine J_iastore (Or.inl rfl) K.1 dX1_learn_81 ?_
      replace K := K.2
      replace K := K _ rfl
      exact J_forget (loc' := [some (vR (some 38)), some (vR (some o)), none, none, some (vI y4), some (vI (b2i ((0 : Int) ≤ y4 ∧ y4 < gi h o 2)))]) (And.intro (Or.inr rfl) (And.intro (Or.inr rfl) (And.intro (Or.inl rfl) (And.intro (Or.inl rfl) (And.intro (Or.inr rfl) (And.intro (Or.inr rfl) True.intro)))))) K
    · replace K := K.1 (b2i_n0.mp c)
      refine J_aload_n rfl dX1_learn_70 ?_
      refine J_getS (r := o + 7) fl_RX1_32 rfl (Or.inl (gx_isl ho)) (gx_r7 ho) dX1_learn_71 ?_
      refine J_iload rfl dX1_learn_74 ?_
      refine J_iaload (Or.inl (gx_a7 ho)) K.1 dX1_learn_76 ?_
      replace K := K.2
      refine J_goto (tgt := 81) dX1_learn_77 (by decide) ?_
      refine J_iastore (Or.inl rfl) K.1 dX1_learn_81 ?_
      replace K := K.2
      replace K := K _ rfl
      exact J_forget (loc' := [some (vR (some 38)), some (vR (some o)), none, none, some (vI y4), some (vI (b2i ((0 : Int) ≤ y4 ∧ y4 < gi h o 2)))]) (And.intro (Or.inr rfl) (And.intro (Or.inr rfl) (And.intro (Or.inl rfl) (And.intro (Or.inl rfl) (And.intro (Or.inr rfl) (And.intro (Or.inr rfl) True.intro)))))) K
set_option maxRecDepth 20000 in
set_option maxHeartbeats 2000000 in
theorem l_X1_learn_82 {d b : Nat} {Q : Option AV → AH → Prop} {h : AH} {o : Nat} {y4 : Int} {y5 : Int} (ho : isl o) (K : R32 (22 + y4) ∧ (y5 = 0 → (0 ≤ 22 + y4 ∧ 22 + y4 < 38) ∧ ∀ h1, h1 = si h 39 (22 + y4) (-1) → Lp_X1_learn_108 d b Q o y4 y5 h1) ∧ (¬(y5 = 0) → (0 ≤ y4 ∧ y4 < 8) ∧ (0 ≤ 22 + y4 ∧ 22 + y4 < 38) ∧ ∀ h2, h2 = si h 39 (22 + y4) (gi h (o + 6) y4) → Lp_X1_learn_108 d b Q o y4 y5 h2)) : Lp_X1_learn_82 d b Q o y4 y5 h := by
  unfold Lp_X1_learn_82
  refine J_aload_n rfl dX1_learn_82 ?_
  refine J_getS (r := 39) fl_RX1_9 rfl (Or.inl rfl) rfl dX1_learn_83 ?_
  refine J_bipush (by decide) (by decide) dX1_learn_86 ?_
  refine J_iload rfl dX1_learn_88 ?_
  refine J_iadd K.1 dX1_learn_90 ?_
  replace K := K.2
  refine J_iload rfl dX1_learn_91 ?_
  refine J_if_eq (tgt := 106) dX1_learn_93 (by decide) (fun c => ?_) (fun c => ?_)
  · replace K := K.1 c
    refine J_iconst (by decide) dX1_learn_106 ?_
    refine J_iastore (Or.inl rfl) K.1 dX1_learn_107 ?_
    replace K := K.2
    replace K := K _ rfl
    exact J_forget (loc' := [some (vR (some 38)), some (vR (some o)), none, none, some (vI y4), some (vI y5)]) (And.intro (Or.inr rfl) (And.intro (Or.inr rfl) (And.intro (Or.inl rfl) (And.intro (Or.inl rfl) (And.intro (Or.inr rfl) (And.intro (Or.inr rfl) True.intro)))))) K
  · replace K := K.2 c
    refine J_aload_n rfl dX1_learn_96 ?_
    refine J_getS (r := o + 6) fl_RX1_35 rfl (Or.inl (gx_isl ho)) (gx_r6 ho) dX1_learn_97 ?_
    refine J_iload rfl dX1_learn_100 ?_
    refine J_iaload (Or.inl (gx_a6 ho)) K.1 dX1_learn_102 ?_
    replace K := K.2
    refine J_goto (tgt := 107) dX1_learn_103 (by decide) ?_
    refine J_iastore (Or.inl rfl) K.1 dX1_learn_107 ?_
    replace K := K.2
    replace K := K _ rfl
    exact J_forget (loc' := [some (vR (some 38)), some (vR (some o)), none, none, some (vI y4), some (vI y5)]) (And.intro (Or.inr rfl) (And.intro (Or.inr rfl) (And.intro (Or.inl rfl) (And.intro (Or.inl rfl) (And.intro (Or.inr rfl) (And.intro (Or.inr rfl) True.intro)))))) K
set_option maxRecDepth 20000 in
set_option maxHeartbeats 2000000 in
theorem l_X1_learn_108 {d b : Nat} {Q : Option AV → AH → Prop} {h : AH} {o : Nat} {y4 : Int} {y5 : Int} (ho : isl o) (K : R32 (30 + y4) ∧ (y5 = 0 → (0 ≤ 30 + y4 ∧ 30 + y4 < 38) ∧ ∀ h1, h1 = si h 39 (30 + y4) 0 → Lp_X1_learn_134 d b Q o y4 h1) ∧ (¬(y5 = 0) → (0 ≤ y4 ∧ y4 < 8) ∧ (0 ≤ 30 + y4 ∧ 30 + y4 < 38) ∧ ∀ h2, h2 = si h 39 (30 + y4) (gi h (o + 8) y4) → Lp_X1_learn_134 d b Q o y4 h2)) : Lp_X1_learn_108 d b Q o y4 y5 h := by
  unfold Lp_X1_learn_108
  refine J_aload_n rfl dX1_learn_108 ?_
  refine J_getS (r := 39) fl_RX1_9 rfl (Or.inl rfl) rfl dX1_learn_109 ?_
  refine J_bipush (by decide) (by decide) dX1_learn_112 ?_
  refine J_iload rfl dX1_learn_114 ?_
  refine J_iadd K.1 dX1_learn_116 ?_
  replace K := K.2
  refine J_iload rfl dX1_learn_117 ?_
  refine J_if_eq (tgt := 132) dX1_learn_119 (by decide) (fun c => ?_) (fun c => ?_)
  · replace K := K.1 c
    refine J_iconst (by decide) dX1_learn_132 ?_
    refine J_iastore (Or.inl rfl) K.1 dX1_learn_133 ?_
    replace K := K.2
    replace K := K _ rfl
    exact J_forget (loc' := [some (vR (some 38)), some (vR (some o)), none, none, some (vI y4), none]) (And.intro (Or.inr rfl) (And.intro (Or.inr rfl) (And.intro (Or.inl rfl) (And.intro (Or.inl rfl) (And.intro (Or.inr rfl) (And.intro (Or.inl rfl) True.intro)))))) K
  · replace K := K.2 c
    refine J_aload_n rfl dX1_learn_122 ?_
    refine J_getS (r := o + 8) fl_RX1_38 rfl (Or.inl (gx_isl ho)) (gx_r8 ho) dX1_learn_123 ?_
    refine J_iload rfl dX1_learn_126 ?_
    refine J_iaload (Or.inl (gx_a8 ho)) K.1 dX1_learn_128 ?_
    replace K := K.2
    refine J_goto (tgt := 133) dX1_learn_129 (by decide) ?_
    refine J_iastore (Or.inl rfl) K.1 dX1_learn_133 ?_
    replace K := K.2
    replace K := K _ rfl
    exact J_forget (loc' := [some (vR (some 38)), some (vR (some o)), none, none, some (vI y4), none]) (And.intro (Or.inr rfl) (And.intro (Or.inr rfl) (And.intro (Or.inl rfl) (And.intro (Or.inl rfl) (And.intro (Or.inr rfl) (And.intro (Or.inl rfl) True.intro)))))) K
set_option maxRecDepth 20000 in
set_option maxHeartbeats 2000000 in
theorem l_X1_learn_134 {d b : Nat} {Q : Option AV → AH → Prop} {h : AH} {o : Nat} {y4 : Int} (ho : isl o) (K : R32 (y4 + 1) ∧ Lp_X1_learn_41 d b Q o (y4 + 1) h) : Lp_X1_learn_134 d b Q o y4 h := by
  unfold Lp_X1_learn_134
  refine J_iinc (loc' := [some (vR (some 38)), some (vR (some o)), none, none, some (vI (y4 + 1)), none]) (by decide) rfl K.1 rfl dX1_learn_134 ?_
  replace K := K.2
  refine J_goto (tgt := 41) dX1_learn_137 (by decide) ?_
  exact J_forget (loc' := [some (vR (some 38)), some (vR (some o)), none, none, some (vI (y4 + 1)), none]) (And.intro (Or.inr rfl) (And.intro (Or.inr rfl) (And.intro (Or.inl rfl) (And.intro (Or.inl rfl) (And.intro (Or.inr rfl) (And.intro (Or.inl rfl) True.intro)))))) K
set_option maxRecDepth 20000 in
set_option maxHeartbeats 2000000 in
theorem w_X1_learn {d b : Nat} {Q : Option AV → AH → Prop} {h : AH} {o : Nat} {x2 : Int} {x3 : Int} (ho : isl o) (K : ∀ h1, h1 = si h 39 9 (gi h o 14) → ∀ h2, h2 = si h1 39 11 x2 → ∀ h3, h3 = si h2 39 12 x3 → (0 ≤ gi h3 o 2 ∧ gi h3 o 2 ≤ 8 ∧ 0 ≤ gi h3 o 0 ∧ gi h3 o 0 ≤ 8) ∧ ∀ h4, h4 = si h3 39 13 (sumZ (fun i => b2i (dIn (gi h3 (o + 6)) i (gi h3 o 2).toNat 0 = -1)) (gi h3 o 0).toNat 0) → Lp_X1_learn_41 d b Q o 0 h4) : WM GX (d + 2) b mX1_learn [vR (some 38), vR (some o), vI x2, vI x3] h Q := by
  refine WM_introE (loc' := [some (vR (some 38)), some (vR (some o)), some (vI x2), some (vI x3), none, none]) rfl (by decide) (Nat.le_of_ble_eq_true rfl) ?_
  refine J_aload_n rfl dX1_learn_0 ?_
  refine J_getS (r := 39) fl_RX1_9 rfl (Or.inl rfl) rfl dX1_learn_1 ?_
  refine J_bipush (by decide) (by decide) dX1_learn_4 ?_
  refine J_aload_n rfl dX1_learn_6 ?_
  refine J_getI fl_RX1_18 rfl (Or.inl (gx_isl ho)) dX1_learn_7 ?_
  refine J_iastore (Or.inl rfl) (by decide) dX1_learn_10 ?_
  replace K := K _ rfl
  refine J_aload_n rfl dX1_learn_11 ?_
  refine J_getS (r := 39) fl_RX1_9 rfl (Or.inl rfl) rfl dX1_learn_12 ?_
  refine J_bipush (by decide) (by decide) dX1_learn_15 ?_
  refine J_iload_n rfl dX1_learn_17 ?_
  refine J_iastore (Or.inl rfl) (by decide) dX1_learn_18 ?_
  replace K := K _ rfl
  refine J_aload_n rfl dX1_learn_19 ?_
  refine J_getS (r := 39) fl_RX1_9 rfl (Or.inl rfl) rfl dX1_learn_20 ?_
  refine J_bipush (by decide) (by decide) dX1_learn_23 ?_
  refine J_iload_n rfl dX1_learn_25 ?_
  refine J_iastore (Or.inl rfl) (by decide) dX1_learn_26 ?_
  replace K := K _ rfl
  refine J_aload_n rfl dX1_learn_27 ?_
  refine J_getS (r := 39) fl_RX1_9 rfl (Or.inl rfl) rfl dX1_learn_28 ?_
  refine J_bipush (by decide) (by decide) dX1_learn_31 ?_
  refine J_aload_n rfl dX1_learn_33 ?_
  refine J_b0 (J_callV (b1 := 0) (ci := 0) (vs := []) (rest := [vI 13, vR (some 39)]) (Or.inr rfl) ml_RX1_24 rfl (by decide) rfl rfl (Or.inl (gx_isl ho)) (Nat.le_of_ble_eq_true rfl) rfl dX1_learn_34 (c_X0_open ho K.1 ?_))
  replace K := K.2
  show J _ _ _ _ _ _ _ [vI _, vI 13, vR (some 39)] _
  refine J_iastore (Or.inl rfl) (by decide) dX1_learn_37 ?_
  replace K := K _ rfl
  refine J_iconst (by decide) dX1_learn_38 ?_
  refine J_istore (loc' := [some (vR (some 38)), some (vR (some o)), some (vI x2), some (vI x3), some (vI 0), none]) (by decide) rfl dX1_learn_39 ?_
  exact J_forget (loc' := [some (vR (some 38)), some (vR (some o)), none, none, some (vI 0), none]) (And.intro (Or.inr rfl) (And.intro (Or.inr rfl) (And.intro (Or.inl rfl) (And.intro (Or.inl rfl) (And.intro (Or.inr rfl) (And.intro (Or.inl rfl) True.intro)))))) K
def Lp_X7_isObeyed_46 (d b : Nat) (Q : Option AV → AH → Prop) (t : Nat) (y2 : Int) (h : AH) : Prop := J GX (d + 5) b mX7_isObeyed Q 46 [some (vR (some 0)), some (vR (some t)), some (vI y2), none, none, none, none, none, none, none] [] h
def Lp_X7_isObeyed_84 (d b : Nat) (Q : Option AV → AH → Prop) (t : Nat) (y2 : Int) (y5 : Int) (y6 : Int) (h : AH) : Prop := J GX (d + 5) b mX7_isObeyed Q 84 [some (vR (some 0)), some (vR (some t)), some (vI y2), none, none, some (vI y5), some (vI y6), none, none, none] [] h
def Lp_X7_isObeyed_116 (d b : Nat) (Q : Option AV → AH → Prop) (t : Nat) (y2 : Int) (y6 : Int) (y7 : Int) (h : AH) : Prop := J GX (d + 5) b mX7_isObeyed Q 116 [some (vR (some 0)), some (vR (some t)), some (vI y2), none, none, none, some (vI y6), some (vI y7), none, none] [] h
set_option maxRecDepth 20000 in
set_option maxHeartbeats 2000000 in
theorem l_X7_isObeyed_46 {d b : Nat} {Q : Option AV → AH → Prop} {h : AH} {t : Nat} {y2 : Int} (kt : Kd GX h t (.inl 5)) (K : WM GX (d + 4) 0 mX5_told [vR (some t), vI y2, vI 1] h (fun r h1 => ∃ u4, r = some (vI u4) ∧ Kd GX h1 t (.inl 5) ∧ WM GX (d + 4) 0 mX5_told [vR (some t), vI y2, vI 2] h1 (fun r h2 => ∃ u5, r = some (vI u5) ∧ (u4 = (-1) → Lp_X7_isObeyed_84 d b Q t y2 u5 (-1) h2) ∧ (¬(u4 = (-1)) → WM GX (d + 4) 0 mX1_value [vR (some 38), vR (some t), vI u4] h2 (fun r h3 => ∃ u6, r = some (vI u6) ∧ Lp_X7_isObeyed_84 d b Q t y2 u5 u6 h3))))) : Lp_X7_isObeyed_46 d b Q t y2 h := by
  unfold Lp_X7_isObeyed_46
  refine J_aload_n rfl dX7_isObeyed_46 ?_
  refine J_iload_n rfl dX7_isObeyed_47 ?_
  refine J_iconst (by decide) dX7_isObeyed_48 ?_
  refine J_b0 (J_callV (b1 := 0) (ci := 5) (vs := [vI y2, vI 1]) (rest := []) (Or.inr rfl) ml_RX7_215 rfl (by decide) rfl rfl kt (Nat.le_of_ble_eq_true rfl) rfl dX7_isObeyed_49 (WM_mono K (fun r h1 K => ?_)))
  obtain ⟨u4, rfl, K⟩ := K
  show J _ _ _ _ _ _ _ [vI u4] _
  refine J_istore (loc' := [some (vR (some 0)), some (vR (some t)), some (vI y2), none, some (vI u4), none, none, none, none, none]) (by decide) rfl dX7_isObeyed_52 ?_
  refine J_aload_n rfl dX7_isObeyed_54 ?_
  refine J_iload_n rfl dX7_isObeyed_55 ?_
  refine J_iconst (by decide) dX7_isObeyed_56 ?_
  have K0 := K.1
  replace K := K.2
  refine J_b0 (J_callV (b1 := 0) (ci := 5) (vs := [vI y2, vI 2]) (rest := []) (Or.inr rfl) ml_RX7_215 rfl (by decide) rfl rfl K0 (Nat.le_of_ble_eq_true rfl) rfl dX7_isObeyed_57 (WM_mono K (fun r h2 K => ?_)))
  obtain ⟨u5, rfl, K⟩ := K
  show J _ _ _ _ _ _ _ [vI u5] _
  refine J_istore (loc' := [some (vR (some 0)), some (vR (some t)), some (vI y2), none, some (vI u4), some (vI u5), none, none, none, none]) (by decide) rfl dX7_isObeyed_60 ?_
  refine J_iload rfl dX7_isObeyed_62 ?_
  refine J_iconst (by decide) dX7_isObeyed_64 ?_
  refine J_icmp_ne (tgt := 72) dX7_isObeyed_65 (by decide) (fun c => ?_) (fun c => ?_)
  · replace K := K.2 c
    refine J_aload_n rfl dX7_isObeyed_72 ?_
    refine J_getS (r := 38) fl_RX7_50 rfl (Or.inl rfl) rfl dX7_isObeyed_73 ?_
    refine J_aload_n rfl dX7_isObeyed_76 ?_
    refine J_iload rfl dX7_isObeyed_77 ?_
    refine J_b0 (J_callV (b1 := 0) (ci := 1) (vs := [vR (some t), vI u4]) (rest := []) (Or.inr rfl) ml_RX7_333 rfl (by decide) rfl rfl (Or.inl rfl) (Nat.le_of_ble_eq_true rfl) rfl dX7_isObeyed_79 (WM_mono K (fun r h3 K => ?_)))
    obtain ⟨u6, rfl, K⟩ := K
    show J _ _ _ _ _ _ _ [vI u6] _
    refine J_istore (loc' := [some (vR (some 0)), some (vR (some t)), some (vI y2), none, some (vI u4), some (vI u5), some (vI u6), none, none, none]) (by decide) rfl dX7_isObeyed_82 ?_
    exact J_forget (loc' := [some (vR (some 0)), some (vR (some t)), some (vI y2), none, none, some (vI u5), some (vI u6), none, none, none]) (And.intro (Or.inr rfl) (And.intro (Or.inr rfl) (And.intro (Or.inr rfl) (And.intro (Or.inl rfl) (And.intro (Or.inl rfl) (And.intro (Or.inr rfl) (And.intro (Or.inr rfl) (And.intro (Or.inl rfl) (And.intro (Or.inl rfl) (And.intro (Or.inl rfl) True.intro)))))))))) K
  · replace K := K.1 c
    refine J_iconst (by decide) dX7_isObeyed_68 ?_
    refine J_goto (tgt := 82) dX7_isObeyed_69 (by decide) ?_
    refine J_istore (loc' := [some (vR (some 0)), some (vR (some t)), some (vI y2), none, some (vI u4), some (vI u5), some (vI (-1)), none, none, none]) (by decide) rfl dX7_isObeyed_82 ?_
    exact J_forget (loc' := [some (vR (some 0)), some (vR (some t)), some (vI y2), none, none, some (vI u5), some (vI (-1)), none, none, none]) (And.intro (Or.inr rfl) (And.intro (Or.inr rfl) (And.intro (Or.inr rfl) (And.intro (Or.inl rfl) (And.intro (Or.inl rfl) (And.intro (Or.inr rfl) (And.intro (Or.inr rfl) (And.intro (Or.inl rfl) (And.intro (Or.inl rfl) (And.intro (Or.inl rfl) True.intro)))))))))) K
set_option maxRecDepth 20000 in
set_option maxHeartbeats 2000000 in
theorem l_X7_isObeyed_84 {d b : Nat} {Q : Option AV → AH → Prop} {h : AH} {t : Nat} {y2 : Int} {y5 : Int} {y6 : Int} (kt : Kd GX h t (.inl 5)) (K : (y6 = (-2000000000) → Q (some (vI 0)) h) ∧ (¬(y6 = (-2000000000)) → (y5 = (-1) → Lp_X7_isObeyed_116 d b Q t y2 y6 (-1) h) ∧ (¬(y5 = (-1)) → WM GX (d + 4) 0 mX1_value [vR (some 38), vR (some t), vI y5] h (fun r h1 => ∃ u7, r = some (vI u7) ∧ Lp_X7_isObeyed_116 d b Q t y2 y6 u7 h1)))) : Lp_X7_isObeyed_84 d b Q t y2 y5 y6 h := by
  unfold Lp_X7_isObeyed_84
  refine J_iload rfl dX7_isObeyed_84 ?_
  refine J_ldcw (n := (-2000000000)) (by decide) (by decide) kc_RX7_337 dX7_isObeyed_86 ?_
  refine J_icmp_ne (tgt := 94) dX7_isObeyed_89 (by decide) (fun c => ?_) (fun c => ?_)
  · replace K := K.2 c
    refine J_iload rfl dX7_isObeyed_94 ?_
    refine J_iconst (by decide) dX7_isObeyed_96 ?_
    refine J_icmp_ne (tgt := 104) dX7_isObeyed_97 (by decide) (fun c => ?_) (fun c => ?_)
    · replace K := K.2 c
      refine J_aload_n rfl dX7_isObeyed_104 ?_
      refine J_getS (r := 38) fl_RX7_50 rfl (Or.inl rfl) rfl dX7_isObeyed_105 ?_
      refine J_aload_n rfl dX7_isObeyed_108 ?_
      refine J_iload rfl dX7_isObeyed_109 ?_
      refine J_b0 (J_callV (b1 := 0) (ci := 1) (vs := [vR (some t), vI y5]) (rest := []) (Or.inr rfl) ml_RX7_333 rfl (by decide) rfl rfl (Or.inl rfl) (Nat.le_of_ble_eq_true rfl) rfl dX7_isObeyed_111 (WM_mono K (fun r h1 K => ?_)))
      obtain ⟨u7, rfl, K⟩ := K
      show J _ _ _ _ _ _ _ [vI u7] _
      refine J_istore (loc' := [some (vR (some 0)), some (vR (some t)), some (vI y2), none, none, some (vI y5), some (vI y6), some (vI u7), none, none]) (by decide) rfl dX7_isObeyed_114 ?_
      exact J_forget (loc' := [some (vR (some 0)), some (vR (some t)), some (vI y2), none, none, none, some (vI y6), some (vI u7), none, none]) (And.intro (Or.inr rfl) (And.intro (Or.inr rfl) (And.intro (Or.inr rfl) (And.intro (Or.inl rfl) (And.intro (Or.inl rfl) (And.intro (Or.inl rfl) (And.intro (Or.inr rfl) (And.intro (Or.inr rfl) (And.intro (Or.inl rfl) (And.intro (Or.inl rfl) True.intro)))))))))) K
    · replace K := K.1 c
      refine J_iconst (by decide) dX7_isObeyed_100 ?_
      refine J_goto (tgt := 114) dX7_isObeyed_101 (by decide) ?_
      refine J_istore (loc' := [some (vR (some 0)), some (vR (some t)), some (vI y2), none, none, some (vI y5), some (vI y6), some (vI (-1)), none, none]) (by decide) rfl dX7_isObeyed_114 ?_
      exact J_forget (loc' := [some (vR (some 0)), some (vR (some t)), some (vI y2), none, none, none, some (vI y6), some (vI (-1)), none, none]) (And.intro (Or.inr rfl) (And.intro (Or.inr rfl) (And.intro (Or.inr rfl) (And.intro (Or.inl rfl) (And.intro (Or.inl rfl) (And.intro (Or.inl rfl) (And.intro (Or.inr rfl) (And.intro (Or.inr rfl) (And.intro (Or.inl rfl) (And.intro (Or.inl rfl) True.intro)))))))))) K
  · replace K := K.1 c
    refine J_iconst (by decide) dX7_isObeyed_92 ?_
    exact J_zreturn ⟨rfl, by decide⟩ dX7_isObeyed_93 K
set_option maxRecDepth 20000 in
set_option maxHeartbeats 2000000 in
theorem l_X7_isObeyed_116 {d b : Nat} {Q : Option AV → AH → Prop} {h : AH} {t : Nat} {y2 : Int} {y6 : Int} {y7 : Int} (kt : Kd GX h t (.inl 5)) (K : (y7 = (-2000000000) → Q (some (vI 0)) h) ∧ (¬(y7 = (-2000000000)) → WM GX (d + 4) 0 mX5_told [vR (some t), vI y2, vI 0] h (fun r h1 => ∃ u8, r = some (vI u8) ∧ WM GX (d + 4) 0 mX7_refusal [vR (some 0), vI u8, vI y6, vI y7] h1 (fun r h2 => ∃ u9, r = some (vI u9) ∧ (u9 = 0 → WM GX (d + 4) 0 mX7_act [vR (some 0), vI u8, vI y6, vI y7] h2 (fun r h3 => ∃ u10, r = some (vI u10) ∧ R32 ((gi h3 0 12) + 1) ∧ ∀ h4, h4 = si h3 0 12 ((gi h3 0 12) + 1) → (u8 = 2 → ∀ h5, h5 = si h4 0 13 u10 → Q (some (vI 1)) h5) ∧ (¬(u8 = 2) → Q (some (vI 1)) h4))) ∧ (¬(u9 = 0) → Q (some (vI 0)) h2))))) : Lp_X7_isObeyed_116 d b Q t y2 y6 y7 h := by
  unfold Lp_X7_isObeyed_116
  refine J_iload rfl dX7_isObeyed_116 ?_
  refine J_ldcw (n := (-2000000000)) (by decide) (by decide) kc_RX7_337 dX7_isObeyed_118 ?_
  refine J_icmp_ne (tgt := 126) dX7_isObeyed_121 (by decide) (fun c => ?_) (fun c => ?_)
  · replace K := K.2 c
    refine J_aload_n rfl dX7_isObeyed_126 ?_
    refine J_iload_n rfl dX7_isObeyed_127 ?_
    refine J_iconst (by decide) dX7_isObeyed_128 ?_
    refine J_b0 (J_callV (b1 := 0) (ci := 5) (vs := [vI y2, vI 0]) (rest := []) (Or.inr rfl) ml_RX7_215 rfl (by decide) rfl rfl kt (Nat.le_of_ble_eq_true rfl) rfl dX7_isObeyed_129 (WM_mono K (fun r h1 K => ?_)))
    obtain ⟨u8, rfl, K⟩ := K
    show J _ _ _ _ _ _ _ [vI u8] _
    refine J_istore (loc' := [some (vR (some 0)), some (vR (some t)), some (vI y2), none, none, none, some (vI y6), some (vI y7), some (vI u8), none]) (by decide) rfl dX7_isObeyed_132 ?_
    refine J_aload_n rfl dX7_isObeyed_134 ?_
    refine J_iload rfl dX7_isObeyed_135 ?_
    refine J_iload rfl dX7_isObeyed_137 ?_
    refine J_iload rfl dX7_isObeyed_139 ?_
    refine J_b0 (J_callV (b1 := 0) (ci := 7) (vs := [vI u8, vI y6, vI y7]) (rest := []) (Or.inl rfl) ml_RX7_316 rfl (by decide) rfl rfl (Or.inl rfl) (Nat.le_of_ble_eq_true rfl) rfl dX7_isObeyed_141 (WM_mono K (fun r h2 K => ?_)))
    obtain ⟨u9, rfl, K⟩ := K
    show J _ _ _ _ _ _ _ [vI u9] _
    refine J_if_eq (tgt := 149) dX7_isObeyed_144 (by decide) (fun c => ?_) (fun c => ?_)
    · replace K := K.1 c
      refine J_aload_n rfl dX7_isObeyed_149 ?_
      refine J_iload rfl dX7_isObeyed_150 ?_
      refine J_iload rfl dX7_isObeyed_152 ?_
      refine J_iload rfl dX7_isObeyed_154 ?_
      refine J_b0 (J_callV (b1 := 0) (ci := 7) (vs := [vI u8, vI y6, vI y7]) (rest := []) (Or.inl rfl) ml_RX7_319 rfl (by decide) rfl rfl (Or.inl rfl) (Nat.le_of_ble_eq_true rfl) rfl dX7_isObeyed_156 (WM_mono K (fun r h3 K => ?_)))
      obtain ⟨u10, rfl, K⟩ := K
      show J _ _ _ _ _ _ _ [vI u10] _
      refine J_istore (loc' := [some (vR (some 0)), some (vR (some t)), some (vI y2), none, none, none, some (vI y6), some (vI y7), some (vI u8), some (vI u10)]) (by decide) rfl dX7_isObeyed_159 ?_
      refine J_aload_n rfl dX7_isObeyed_161 ?_
      refine J_dup rfl dX7_isObeyed_162 ?_
      refine J_getI fl_RX7_75 rfl (Or.inl rfl) dX7_isObeyed_163 ?_
      refine J_iconst (by decide) dX7_isObeyed_166 ?_
      refine J_iadd K.1 dX7_isObeyed_167 ?_
      replace K := K.2
      refine J_putI fl_RX7_75 rfl (Or.inl rfl) dX7_isObeyed_168 ?_
      replace K := K _ rfl
      refine J_iload rfl dX7_isObeyed_171 ?_
      refine J_iconst (by decide) dX7_isObeyed_173 ?_
      refine J_icmp_ne (tgt := 183) dX7_isObeyed_174 (by decide) (fun c => ?_) (fun c => ?_)
      · replace K := K.2 c
        refine J_iconst (by decide) dX7_isObeyed_183 ?_
        exact J_zreturn ⟨rfl, by decide⟩ dX7_isObeyed_184 K
      · replace K := K.1 c
        refine J_aload_n rfl dX7_isObeyed_177 ?_
        refine J_iload rfl dX7_isObeyed_178 ?_
        refine J_putI fl_RX7_78 rfl (Or.inl rfl) dX7_isObeyed_180 ?_
        replace K := K _ rfl
        refine J_iconst (by decide) dX7_isObeyed_183 ?_
        exact J_zreturn ⟨rfl, by decide⟩ dX7_isObeyed_184 K
    · replace K := K.2 c
      refine J_iconst (by decide) dX7_isObeyed_147 ?_
      exact J_zreturn ⟨rfl, by decide⟩ dX7_isObeyed_148 K
  · replace K := K.1 c
    refine J_iconst (by decide) dX7_isObeyed_124 ?_
    exact J_zreturn ⟨rfl, by decide⟩ dX7_isObeyed_125 K
set_option maxRecDepth 20000 in
set_option maxHeartbeats 2000000 in
theorem w_X7_isObeyed {d b : Nat} {Q : Option AV → AH → Prop} {h : AH} {t : Nat} {x2 : Int} (kt : Kd GX h t (.inl 5)) (K : WM GX (d + 4) 0 mX1_learn [vR (some 38), vR (some 1), vI (gi h 0 12), vI (gi h 0 13)] h (fun r h1 => r = none ∧ Kd GX h1 t (.inl 5) ∧ WM GX (d + 4) 0 mX5_told [vR (some t), vI x2, vI 4] h1 (fun r h2 => ∃ u2, r = some (vI u2) ∧ (u2 = (-1) → Lp_X7_isObeyed_46 d b Q t x2 h2) ∧ (¬(u2 = (-1)) → WM GX (d + 4) 0 mX1_value [vR (some 38), vR (some t), vI u2] h2 (fun r h3 => ∃ u3, r = some (vI u3) ∧ (u3 = 1 → Lp_X7_isObeyed_46 d b Q t x2 h3) ∧ (¬(u3 = 1) → Q (some (vI 1)) h3)))))) : WM GX (d + 5) b mX7_isObeyed [vR (some 0), vR (some t), vI x2] h Q := by
  refine WM_introE (loc' := [some (vR (some 0)), some (vR (some t)), some (vI x2), none, none, none, none, none, none, none]) rfl (by decide) (Nat.le_of_ble_eq_true rfl) ?_
  refine J_aload_n rfl dX7_isObeyed_0 ?_
  refine J_getS (r := 38) fl_RX7_50 rfl (Or.inl rfl) rfl dX7_isObeyed_1 ?_
  refine J_aload_n rfl dX7_isObeyed_4 ?_
  refine J_getS (r := 1) fl_RX7_10 rfl (Or.inl rfl) rfl dX7_isObeyed_5 ?_
  refine J_aload_n rfl dX7_isObeyed_8 ?_
  refine J_getI fl_RX7_75 rfl (Or.inl rfl) dX7_isObeyed_9 ?_
  refine J_aload_n rfl dX7_isObeyed_12 ?_
  refine J_getI fl_RX7_78 rfl (Or.inl rfl) dX7_isObeyed_13 ?_
  refine J_b0 (J_callV (b1 := 0) (ci := 1) (vs := [vR (some 1), vI (gi h 0 12), vI (gi h 0 13)]) (rest := []) (Or.inr rfl) ml_RX7_329 rfl (by decide) rfl rfl (Or.inl rfl) (Nat.le_of_ble_eq_true rfl) rfl dX7_isObeyed_16 (WM_mono K (fun r h1 K => ?_)))
  obtain ⟨rfl, K⟩ := K
  show J _ _ _ _ _ _ _ [] _
  refine J_aload_n rfl dX7_isObeyed_19 ?_
  refine J_iload_n rfl dX7_isObeyed_20 ?_
  refine J_iconst (by decide) dX7_isObeyed_21 ?_
  have K0 := K.1
  replace K := K.2
  refine J_b0 (J_callV (b1 := 0) (ci := 5) (vs := [vI x2, vI 4]) (rest := []) (Or.inr rfl) ml_RX7_215 rfl (by decide) rfl rfl K0 (Nat.le_of_ble_eq_true rfl) rfl dX7_isObeyed_22 (WM_mono K (fun r h2 K => ?_)))
  obtain ⟨u2, rfl, K⟩ := K
  show J _ _ _ _ _ _ _ [vI u2] _
  refine J_istore_n (loc' := [some (vR (some 0)), some (vR (some t)), some (vI x2), some (vI u2), none, none, none, none, none, none]) (by decide) rfl dX7_isObeyed_25 ?_
  refine J_iload_n rfl dX7_isObeyed_26 ?_
  refine J_iconst (by decide) dX7_isObeyed_27 ?_
  refine J_icmp_eq (tgt := 46) dX7_isObeyed_28 (by decide) (fun c => ?_) (fun c => ?_)
  · replace K := K.1 c
    exact J_forget (loc' := [some (vR (some 0)), some (vR (some t)), some (vI x2), none, none, none, none, none, none, none]) (And.intro (Or.inr rfl) (And.intro (Or.inr rfl) (And.intro (Or.inr rfl) (And.intro (Or.inl rfl) (And.intro (Or.inl rfl) (And.intro (Or.inl rfl) (And.intro (Or.inl rfl) (And.intro (Or.inl rfl) (And.intro (Or.inl rfl) (And.intro (Or.inl rfl) True.intro)))))))))) K
  · replace K := K.2 c
    refine J_aload_n rfl dX7_isObeyed_31 ?_
    refine J_getS (r := 38) fl_RX7_50 rfl (Or.inl rfl) rfl dX7_isObeyed_32 ?_
    refine J_aload_n rfl dX7_isObeyed_35 ?_
    refine J_iload_n rfl dX7_isObeyed_36 ?_
    refine J_b0 (J_callV (b1 := 0) (ci := 1) (vs := [vR (some t), vI u2]) (rest := []) (Or.inr rfl) ml_RX7_333 rfl (by decide) rfl rfl (Or.inl rfl) (Nat.le_of_ble_eq_true rfl) rfl dX7_isObeyed_37 (WM_mono K (fun r h3 K => ?_)))
    obtain ⟨u3, rfl, K⟩ := K
    show J _ _ _ _ _ _ _ [vI u3] _
    refine J_iconst (by decide) dX7_isObeyed_40 ?_
    refine J_icmp_eq (tgt := 46) dX7_isObeyed_41 (by decide) (fun c => ?_) (fun c => ?_)
    · replace K := K.1 c
      exact J_forget (loc' := [some (vR (some 0)), some (vR (some t)), some (vI x2), none, none, none, none, none, none, none]) (And.intro (Or.inr rfl) (And.intro (Or.inr rfl) (And.intro (Or.inr rfl) (And.intro (Or.inl rfl) (And.intro (Or.inl rfl) (And.intro (Or.inl rfl) (And.intro (Or.inl rfl) (And.intro (Or.inl rfl) (And.intro (Or.inl rfl) (And.intro (Or.inl rfl) True.intro)))))))))) K
    · replace K := K.2 c
      refine J_iconst (by decide) dX7_isObeyed_44 ?_
      exact J_zreturn ⟨rfl, by decide⟩ dX7_isObeyed_45 K
def Lp_X7_orders_55 (d b : Nat) (Q : Option AV → AH → Prop)  (y2 : Int) (y3 : Int) (h : AH) : Prop := J GX (d + 13) b mX7_orders Q 55 [some (vR (some 0)), some (vR (some 35)), some (vI y2), some (vI y3), none, none] [] h
def Lp_X7_orders_74 (d b : Nat) (Q : Option AV → AH → Prop)  (y2 : Int) (y3 : Int) (y4 : Int) (y5 : Int) (h : AH) : Prop := J GX (d + 13) b mX7_orders Q 74 [some (vR (some 0)), some (vR (some 35)), some (vI y2), some (vI y3), some (vI y4), some (vI y5)] [] h
set_option maxRecDepth 20000 in
set_option maxHeartbeats 2000000 in
theorem l_X7_orders_55 {d b : Nat} {Q : Option AV → AH → Prop} {h : AH}  {y2 : Int} {y3 : Int}  (K : (gi h 35 0 ≤ y3 → WM GX (d + 12) 0 mX6_trim [vR (some 41)] h (fun r h1 => r = none ∧ ∀ h2, h2 = si h1 0 14 0 → Q (some (vI (gi h1 0 12))) h2)) ∧ (¬(gi h 35 0 ≤ y3) → WM GX (d + 12) 0 mX5_told [vR (some 35), vI y3, vI 3] h (fun r h3 => ∃ u3, r = some (vI u3) ∧ Lp_X7_orders_74 d b Q y2 y3 u3 0 h3))) : Lp_X7_orders_55 d b Q y2 y3 h := by
  unfold Lp_X7_orders_55
  refine J_iload_n rfl dX7_orders_55 ?_
  refine J_aload_n rfl dX7_orders_56 ?_
  refine J_getI fl_RX7_212 rfl (Or.inl rfl) dX7_orders_57 ?_
  refine J_icmp_ge (tgt := 127) dX7_orders_60 (by decide) (fun c => ?_) (fun c => ?_)
  · replace K := K.1 c
    refine J_aload_n rfl dX7_orders_127 ?_
    refine J_getS (r := 41) fl_RX7_57 rfl (Or.inl rfl) rfl dX7_orders_128 ?_
    refine J_b0 (J_callV (b1 := 0) (ci := 6) (vs := []) (rest := []) (Or.inr rfl) ml_RX7_227 rfl (by decide) rfl rfl (Or.inl rfl) (Nat.le_of_ble_eq_true rfl) rfl dX7_orders_131 (WM_mono K (fun r h1 K => ?_)))
    obtain ⟨rfl, K⟩ := K
    show J _ _ _ _ _ _ _ [] _
    refine J_aload_n rfl dX7_orders_134 ?_
    refine J_aload_n rfl dX7_orders_135 ?_
    refine J_getI fl_RX7_75 rfl (Or.inl rfl) dX7_orders_136 ?_
    refine J_b0 (J_callV (b1 := 0) (ci := 7) (vs := [vI _]) (rest := []) (Or.inl rfl) ml_RX7_98 rfl (by decide) rfl rfl (Or.inl rfl) (Nat.le_of_ble_eq_true rfl) rfl dX7_orders_139 (c_X7_granted   ?_))
    replace K := K _ rfl
    show J _ _ _ _ _ _ _ [vI _] _
    exact J_ireturn rfl dX7_orders_142 K
  · replace K := K.2 c
    refine J_aload_n rfl dX7_orders_63 ?_
    refine J_iload_n rfl dX7_orders_64 ?_
    refine J_iconst (by decide) dX7_orders_65 ?_
    refine J_b0 (J_callV (b1 := 0) (ci := 5) (vs := [vI y3, vI 3]) (rest := []) (Or.inr rfl) ml_RX7_215 rfl (by decide) rfl rfl (Or.inl rfl) (Nat.le_of_ble_eq_true rfl) rfl dX7_orders_66 (WM_mono K (fun r h3 K => ?_)))
    obtain ⟨u3, rfl, K⟩ := K
    show J _ _ _ _ _ _ _ [vI u3] _
    refine J_istore (loc' := [some (vR (some 0)), some (vR (some 35)), some (vI y2), some (vI y3), some (vI u3), none]) (by decide) rfl dX7_orders_69 ?_
    refine J_iconst (by decide) dX7_orders_71 ?_
    refine J_istore (loc' := [some (vR (some 0)), some (vR (some 35)), some (vI y2), some (vI y3), some (vI u3), some (vI 0)]) (by decide) rfl dX7_orders_72 ?_
    exact J_forget (loc' := [some (vR (some 0)), some (vR (some 35)), some (vI y2), some (vI y3), some (vI u3), some (vI 0)]) (And.intro (Or.inr rfl) (And.intro (Or.inr rfl) (And.intro (Or.inr rfl) (And.intro (Or.inr rfl) (And.intro (Or.inr rfl) (And.intro (Or.inr rfl) True.intro)))))) K
set_option maxRecDepth 20000 in
set_option maxHeartbeats 2000000 in
theorem l_X7_orders_74 {d b : Nat} {Q : Option AV → AH → Prop} {h : AH}  {y2 : Int} {y3 : Int} {y4 : Int} {y5 : Int}  (K : (y4 ≤ y5 → R32 (y3 + 1) ∧ Lp_X7_orders_55 d b Q y2 (y3 + 1) h) ∧ (¬(y4 ≤ y5) → WM GX (d + 12) 0 mX7_isObeyed [vR (some 0), vR (some 35), vI y3] h (fun r h1 => ∃ u4, r = some (vI u4) ∧ (u4 = 0 → WM GX (d + 12) 0 mX6_backTo [vR (some 41), vI y2, vR (some 1)] h1 (fun r h2 => ∃ u5, r = some (vI u5) ∧ ∀ h3, h3 = si h2 0 11 y3 → (∀ i : Int, 0 ≤ i → i < 5 → 0 ≤ gi h3 14 i ∧ gi h3 14 i ≤ 1000000) ∧ ∀ h4, h4 = xRef h3 (-3) → Q (some (vI (-3))) h4)) ∧ (¬(u4 = 0) → R32 (y5 + 1) ∧ Lp_X7_orders_74 d b Q y2 y3 y4 (y5 + 1) h1)))) : Lp_X7_orders_74 d b Q y2 y3 y4 y5 h := by
  unfold Lp_X7_orders_74
  refine J_iload rfl dX7_orders_74 ?_
  refine J_iload rfl dX7_orders_76 ?_
  refine J_icmp_ge (tgt := 121) dX7_orders_78 (by decide) (fun c => ?_) (fun c => ?_)
  · replace K := K.1 c
    refine J_iinc (loc' := [some (vR (some 0)), some (vR (some 35)), some (vI y2), some (vI (y3 + 1)), some (vI y4), some (vI y5)]) (by decide) rfl K.1 rfl dX7_orders_121 ?_
    replace K := K.2
    refine J_goto (tgt := 55) dX7_orders_124 (by decide) ?_
    exact J_forget (loc' := [some (vR (some 0)), some (vR (some 35)), some (vI y2), some (vI (y3 + 1)), none, none]) (And.intro (Or.inr rfl) (And.intro (Or.inr rfl) (And.intro (Or.inr rfl) (And.intro (Or.inr rfl) (And.intro (Or.inl rfl) (And.intro (Or.inl rfl) True.intro)))))) K
  · replace K := K.2 c
    refine J_aload_n rfl dX7_orders_81 ?_
    refine J_aload_n rfl dX7_orders_82 ?_
    refine J_iload_n rfl dX7_orders_83 ?_
    refine J_b0 (J_callV (b1 := 0) (ci := 7) (vs := [vR (some 35), vI y3]) (rest := []) (Or.inl rfl) ml_RX7_219 rfl (by decide) rfl rfl (Or.inl rfl) (Nat.le_of_ble_eq_true rfl) rfl dX7_orders_84 (WM_mono K (fun r h1 K => ?_)))
    obtain ⟨u4, rfl, K⟩ := K
    show J _ _ _ _ _ _ _ [vI u4] _
    refine J_if_ne (tgt := 115) dX7_orders_87 (by decide) (fun c => ?_) (fun c => ?_)
    · replace K := K.2 c
      refine J_iinc (loc' := [some (vR (some 0)), some (vR (some 35)), some (vI y2), some (vI y3), some (vI y4), some (vI (y5 + 1))]) (by decide) rfl K.1 rfl dX7_orders_115 ?_
      replace K := K.2
      refine J_goto (tgt := 74) dX7_orders_118 (by decide) ?_
      exact J_forget (loc' := [some (vR (some 0)), some (vR (some 35)), some (vI y2), some (vI y3), some (vI y4), some (vI (y5 + 1))]) (And.intro (Or.inr rfl) (And.intro (Or.inr rfl) (And.intro (Or.inr rfl) (And.intro (Or.inr rfl) (And.intro (Or.inr rfl) (And.intro (Or.inr rfl) True.intro)))))) K
    · replace K := K.1 c
      refine J_aload_n rfl dX7_orders_90 ?_
      refine J_getS (r := 41) fl_RX7_57 rfl (Or.inl rfl) rfl dX7_orders_91 ?_
      refine J_iload_n rfl dX7_orders_94 ?_
      refine J_aload_n rfl dX7_orders_95 ?_
      refine J_getS (r := 1) fl_RX7_10 rfl (Or.inl rfl) rfl dX7_orders_96 ?_
      refine J_b0 (J_callV (b1 := 0) (ci := 6) (vs := [vI y2, vR (some 1)]) (rest := []) (Or.inr rfl) ml_RX7_223 rfl (by decide) rfl rfl (Or.inl rfl) (Nat.le_of_ble_eq_true rfl) rfl dX7_orders_99 (WM_mono K (fun r h2 K => ?_)))
      obtain ⟨u5, rfl, K⟩ := K
      show J _ _ _ _ _ _ _ [vI u5] _
      refine J_pop rfl dX7_orders_102 ?_
      refine J_aload_n rfl dX7_orders_103 ?_
      refine J_iload_n rfl dX7_orders_104 ?_
      refine J_putI fl_RX7_72 rfl (Or.inl rfl) dX7_orders_105 ?_
      replace K := K _ rfl
      refine J_aload_n rfl dX7_orders_108 ?_
      refine J_bipush (by decide) (by decide) dX7_orders_109 ?_
      refine J_b0 (J_callV (b1 := 0) (ci := 7) (vs := [vI (-3)]) (rest := []) (Or.inl rfl) ml_RX7_88 rfl (by decide) rfl rfl (Or.inl rfl) (Nat.le_of_ble_eq_true rfl) rfl dX7_orders_111 (c_X7_refuse  K.1 ?_))
      replace K := K.2
      replace K := K _ rfl
      show J _ _ _ _ _ _ _ [vI (-3)] _
      exact J_ireturn rfl dX7_orders_114 K
set_option maxRecDepth 20000 in
set_option maxHeartbeats 2000000 in
theorem w_X7_orders {d b : Nat} {Q : Option AV → AH → Prop} {h : AH}   (K : ∀ h1, h1 = si h 0 11 (-1) → WM GX (d + 12) 0 mX3_reads [vR (some 31), vR (some 29), vI 1] h1 (fun r h2 => ∃ u1, r = some (vI u1) ∧ (u1 = 0 → (∀ i : Int, 0 ≤ i → i < 5 → 0 ≤ gi h2 14 i ∧ gi h2 14 i ≤ 1000000) ∧ ∀ h5, h5 = xRef h2 (-6) → Q (some (vI (-6))) h5) ∧ (¬(u1 = 0) → ∀ h3, h3 = si h2 0 12 0 → ∀ h4, h4 = si h3 0 13 (-1) → Lp_X7_orders_55 d b Q (gi h2 41 1) 0 h4))) : WM GX (d + 13) b mX7_orders [vR (some 0)] h Q := by
  refine WM_introE (loc' := [some (vR (some 0)), none, none, none, none, none]) rfl (by decide) (Nat.le_of_ble_eq_true rfl) ?_
  refine J_aload_n rfl dX7_orders_0 ?_
  refine J_iconst (by decide) dX7_orders_1 ?_
  refine J_putI fl_RX7_72 rfl (Or.inl rfl) dX7_orders_2 ?_
  replace K := K _ rfl
  refine J_aload_n rfl dX7_orders_5 ?_
  refine J_getS (r := 31) fl_RX7_43 rfl (Or.inl rfl) rfl dX7_orders_6 ?_
  refine J_aload_n rfl dX7_orders_9 ?_
  refine J_getS (r := 29) fl_RX7_36 rfl (Or.inl rfl) rfl dX7_orders_10 ?_
  refine J_iconst (by decide) dX7_orders_13 ?_
  refine J_b0 (J_callV (b1 := 0) (ci := 3) (vs := [vR (some 29), vI 1]) (rest := []) (Or.inr rfl) ml_RX7_194 rfl (by decide) rfl rfl (Or.inl rfl) (Nat.le_of_ble_eq_true rfl) rfl dX7_orders_14 (WM_mono K (fun r h2 K => ?_)))
  obtain ⟨u1, rfl, K⟩ := K
  show J _ _ _ _ _ _ _ [vI u1] _
  refine J_if_ne (tgt := 27) dX7_orders_17 (by decide) (fun c => ?_) (fun c => ?_)
  · replace K := K.2 c
    refine J_aload_n rfl dX7_orders_27 ?_
    refine J_getS (r := 31) fl_RX7_43 rfl (Or.inl rfl) rfl dX7_orders_28 ?_
    refine J_getS (r := 35) fl_RX7_202 rfl (Or.inl rfl) rfl dX7_orders_31 ?_
    refine J_astore_n (loc' := [some (vR (some 0)), some (vR (some 35)), none, none, none, none]) (by decide) rfl dX7_orders_34 ?_
    refine J_aload_n rfl dX7_orders_35 ?_
    refine J_getS (r := 41) fl_RX7_57 rfl (Or.inl rfl) rfl dX7_orders_36 ?_
    refine J_getI fl_RX7_135 rfl (Or.inl rfl) dX7_orders_39 ?_
    refine J_istore_n (loc' := [some (vR (some 0)), some (vR (some 35)), some (vI _), none, none, none]) (by decide) rfl dX7_orders_42 ?_
    refine J_aload_n rfl dX7_orders_43 ?_
    refine J_iconst (by decide) dX7_orders_44 ?_
    refine J_putI fl_RX7_75 rfl (Or.inl rfl) dX7_orders_45 ?_
    replace K := K _ rfl
    refine J_aload_n rfl dX7_orders_48 ?_
    refine J_iconst (by decide) dX7_orders_49 ?_
    refine J_putI fl_RX7_78 rfl (Or.inl rfl) dX7_orders_50 ?_
    replace K := K _ rfl
    refine J_iconst (by decide) dX7_orders_53 ?_
    refine J_istore_n (loc' := [some (vR (some 0)), some (vR (some 35)), some (vI _), some (vI 0), none, none]) (by decide) rfl dX7_orders_54 ?_
    exact J_forget (loc' := [some (vR (some 0)), some (vR (some 35)), some (vI _), some (vI 0), none, none]) (And.intro (Or.inr rfl) (And.intro (Or.inr rfl) (And.intro (Or.inr rfl) (And.intro (Or.inr rfl) (And.intro (Or.inl rfl) (And.intro (Or.inl rfl) True.intro)))))) K
  · replace K := K.1 c
    refine J_aload_n rfl dX7_orders_20 ?_
    refine J_bipush (by decide) (by decide) dX7_orders_21 ?_
    refine J_b0 (J_callV (b1 := 0) (ci := 7) (vs := [vI (-6)]) (rest := []) (Or.inl rfl) ml_RX7_88 rfl (by decide) rfl rfl (Or.inl rfl) (Nat.le_of_ble_eq_true rfl) rfl dX7_orders_23 (c_X7_refuse  K.1 ?_))
    replace K := K.2
    replace K := K _ rfl
    show J _ _ _ _ _ _ _ [vI (-6)] _
    exact J_ireturn rfl dX7_orders_26 K
