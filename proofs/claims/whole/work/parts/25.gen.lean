def Lp_X5_has_2 (d b : Nat) (Q : Option AV → AH → Prop) (t : Nat) (y1 : Int) (y2 : Int) (h : AH) : Prop := J GX (d + 1) b mX5_has Q 2 [some (vR (some t)), some (vI y1), some (vI y2)] [] h
set_option maxRecDepth 20000 in
set_option maxHeartbeats 2000000 in
theorem l_X5_has_2 {d b : Nat} {Q : Option AV → AH → Prop} {h : AH} {t : Nat} {y1 : Int} {y2 : Int} (kt : Kd GX h t (.inl 5)) (K : (gi h t 0 ≤ y2 → Q (some (vI 0)) h) ∧ (¬(gi h t 0 ≤ y2) → WM GX d 0 mX5_told [vR (some t), vI y2, vI 0] h (fun r h1 => ∃ u1, r = some (vI u1) ∧ (u1 = y1 → Q (some (vI 1)) h1) ∧ (¬(u1 = y1) → R32 (y2 + 1) ∧ Lp_X5_has_2 d b Q t y1 (y2 + 1) h1)))) : Lp_X5_has_2 d b Q t y1 y2 h := by
  unfold Lp_X5_has_2
  refine J_iload_n rfl dX5_has_2 ?_
  refine J_aload_n rfl dX5_has_3 ?_
  refine J_getI fl_RX5_9 rfl kt dX5_has_4 ?_
  refine J_icmp_ge (tgt := 28) dX5_has_7 (by decide) (fun c => ?_) (fun c => ?_)
  · replace K := K.1 c
    refine J_iconst (by decide) dX5_has_28 ?_
    exact J_zreturn ⟨rfl, by decide⟩ dX5_has_29 K
  · replace K := K.2 c
    refine J_aload_n rfl dX5_has_10 ?_
    refine J_iload_n rfl dX5_has_11 ?_
    refine J_iconst (by decide) dX5_has_12 ?_
    refine J_b0 (J_callV (b1 := 0) (ci := 5) (vs := [vI y2, vI 0]) (rest := []) (Or.inl rfl) ml_RX5_38 rfl (by decide) rfl rfl kt (Nat.le_of_ble_eq_true rfl) rfl dX5_has_13 (WM_mono K (fun r h1 K => ?_)))
    obtain ⟨u1, rfl, K⟩ := K
    show J _ _ _ _ _ _ _ [vI u1] _
    refine J_iload_n rfl dX5_has_16 ?_
    refine J_icmp_ne (tgt := 22) dX5_has_17 (by decide) (fun c => ?_) (fun c => ?_)
    · replace K := K.2 c
      refine J_iinc (loc' := [some (vR (some t)), some (vI y1), some (vI (y2 + 1))]) (by decide) rfl K.1 rfl dX5_has_22 ?_
      replace K := K.2
      refine J_goto (tgt := 2) dX5_has_25 (by decide) ?_
      exact J_forget (loc' := [some (vR (some t)), some (vI y1), some (vI (y2 + 1))]) (And.intro (Or.inr rfl) (And.intro (Or.inr rfl) (And.intro (Or.inr rfl) True.intro))) K
    · replace K := K.1 c
      refine J_iconst (by decide) dX5_has_20 ?_
      exact J_zreturn ⟨rfl, by decide⟩ dX5_has_21 K
set_option maxRecDepth 20000 in
set_option maxHeartbeats 2000000 in
theorem w_X5_has {d b : Nat} {Q : Option AV → AH → Prop} {h : AH} {t : Nat} {x1 : Int} (kt : Kd GX h t (.inl 5)) (K : Lp_X5_has_2 d b Q t x1 0 h) : WM GX (d + 1) b mX5_has [vR (some t), vI x1] h Q := by
  refine WM_introE (loc' := [some (vR (some t)), some (vI x1), none]) rfl (by decide) (Nat.le_of_ble_eq_true rfl) ?_
  refine J_iconst (by decide) dX5_has_0 ?_
  refine J_istore_n (loc' := [some (vR (some t)), some (vI x1), some (vI 0)]) (by decide) rfl dX5_has_1 ?_
  exact J_forget (loc' := [some (vR (some t)), some (vI x1), some (vI 0)]) (And.intro (Or.inr rfl) (And.intro (Or.inr rfl) (And.intro (Or.inr rfl) True.intro))) K
def Lp_X1_lastTold_14 (d b : Nat) (Q : Option AV → AH → Prop) (t : Nat) (y2 : Int) (y3 : Int) (y4 : Int) (h : AH) : Prop := J GX (d + 2) b mX1_lastTold Q 14 [some (vR (some 38)), some (vR (some t)), some (vI y2), some (vI y3), some (vI y4), none, none, none] [] h
set_option maxRecDepth 20000 in
set_option maxHeartbeats 2000000 in
theorem l_X1_lastTold_14 {d b : Nat} {Q : Option AV → AH → Prop} {h : AH} {t : Nat} {y2 : Int} {y3 : Int} {y4 : Int} (kt : Kd GX h t (.inl 5)) (K : (y4 < 0 → Q (some (vI y3)) h) ∧ (¬(y4 < 0) → WM GX (d + 1) 0 mX5_told [vR (some t), vI y4, vI 0] h (fun r h1 => ∃ u1, r = some (vI u1) ∧ (u1 = y2 → Kd GX h1 t (.inl 5) ∧ WM GX (d + 1) 0 mX5_told [vR (some t), vI y4, vI 4] h1 (fun r h2 => ∃ u2, r = some (vI u2) ∧ (u2 = (-1) → Kd GX h2 t (.inl 5) ∧ WM GX (d + 1) 0 mX5_told [vR (some t), vI y4, vI 1] h2 (fun r h3 => ∃ u3, r = some (vI u3) ∧ (u3 = (-1) → Q (some (vI 1)) h3) ∧ (¬(u3 = (-1)) → WM GX (d + 1) 0 mX1_value [vR (some 38), vR (some t), vI u3] h3 (fun r h4 => ∃ u4, r = some (vI u4) ∧ (u4 = (-2000000000) → R32 (y4 + (-1)) ∧ Lp_X1_lastTold_14 d b Q t y2 y3 (y4 + (-1)) h4) ∧ (¬(u4 = (-2000000000)) → Q (some (vI u4)) h4))))) ∧ (¬(u2 = (-1)) → WM GX (d + 1) 0 mX1_value [vR (some 38), vR (some t), vI u2] h2 (fun r h5 => ∃ u5, r = some (vI u5) ∧ (u5 = 1 → Kd GX h5 t (.inl 5) ∧ WM GX (d + 1) 0 mX5_told [vR (some t), vI y4, vI 1] h5 (fun r h6 => ∃ u6, r = some (vI u6) ∧ (u6 = (-1) → Q (some (vI 1)) h6) ∧ (¬(u6 = (-1)) → WM GX (d + 1) 0 mX1_value [vR (some 38), vR (some t), vI u6] h6 (fun r h7 => ∃ u7, r = some (vI u7) ∧ (u7 = (-2000000000) → R32 (y4 + (-1)) ∧ Lp_X1_lastTold_14 d b Q t y2 y3 (y4 + (-1)) h7) ∧ (¬(u7 = (-2000000000)) → Q (some (vI u7)) h7))))) ∧ (¬(u5 = 1) → R32 (y4 + (-1)) ∧ Lp_X1_lastTold_14 d b Q t y2 y3 (y4 + (-1)) h5))))) ∧ (¬(u1 = y2) → R32 (y4 + (-1)) ∧ Lp_X1_lastTold_14 d b Q t y2 y3 (y4 + (-1)) h1)))) : Lp_X1_lastTold_14 d b Q t y2 y3 y4 h := by
  unfold Lp_X1_lastTold_14
  refine J_iload rfl dX1_lastTold_14 ?_
  refine J_if_lt (tgt := 106) dX1_lastTold_16 (by decide) (fun c => ?_) (fun c => ?_)
  · replace K := K.1 c
    refine J_iload_n rfl dX1_lastTold_106 ?_
    exact J_ireturn rfl dX1_lastTold_107 K
  · replace K := K.2 c
    refine J_aload_n rfl dX1_lastTold_19 ?_
    refine J_iload rfl dX1_lastTold_20 ?_
    refine J_iconst (by decide) dX1_lastTold_22 ?_
    refine J_b0 (J_callV (b1 := 0) (ci := 5) (vs := [vI y4, vI 0]) (rest := []) (Or.inr rfl) ml_RX1_95 rfl (by decide) rfl rfl kt (Nat.le_of_ble_eq_true rfl) rfl dX1_lastTold_23 (WM_mono K (fun r h1 K => ?_)))
    obtain ⟨u1, rfl, K⟩ := K
    show J _ _ _ _ _ _ _ [vI u1] _
    refine J_iload_n rfl dX1_lastTold_26 ?_
    refine J_icmp_eq (tgt := 33) dX1_lastTold_27 (by decide) (fun c => ?_) (fun c => ?_)
    · replace K := K.1 c
      refine J_aload_n rfl dX1_lastTold_33 ?_
      refine J_iload rfl dX1_lastTold_34 ?_
      refine J_iconst (by decide) dX1_lastTold_36 ?_
      have K0 := K.1
      replace K := K.2
      refine J_b0 (J_callV (b1 := 0) (ci := 5) (vs := [vI y4, vI 4]) (rest := []) (Or.inr rfl) ml_RX1_95 rfl (by decide) rfl rfl K0 (Nat.le_of_ble_eq_true rfl) rfl dX1_lastTold_37 (WM_mono K (fun r h2 K => ?_)))
      obtain ⟨u2, rfl, K⟩ := K
      show J _ _ _ _ _ _ _ [vI u2] _
      refine J_istore (loc' := [some (vR (some 38)), some (vR (some t)), some (vI y2), some (vI y3), some (vI y4), some (vI u2), none, none]) (by decide) rfl dX1_lastTold_40 ?_
      refine J_iload rfl dX1_lastTold_42 ?_
      refine J_iconst (by decide) dX1_lastTold_44 ?_
      refine J_icmp_eq (tgt := 62) dX1_lastTold_45 (by decide) (fun c => ?_) (fun c => ?_)
      · replace K := K.1 c
        refine J_aload_n rfl dX1_lastTold_62 ?_
        refine J_iload rfl dX1_lastTold_63 ?_
        refine J_iconst (by decide) dX1_lastTold_65 ?_
        have K0 := K.1
        replace K := K.2
        refine J_b0 (J_callV (b1 := 0) (ci := 5) (vs := [vI y4, vI 1]) (rest := []) (Or.inr rfl) ml_RX1_95 rfl (by decide) rfl rfl K0 (Nat.le_of_ble_eq_true rfl) rfl dX1_lastTold_66 (WM_mono K (fun r h3 K => ?_)))
        obtain ⟨u3, rfl, K⟩ := K
        show J _ _ _ _ _ _ _ [vI u3] _
        refine J_istore (loc' := [some (vR (some 38)), some (vR (some t)), some (vI y2), some (vI y3), some (vI y4), some (vI u2), some (vI u3), none]) (by decide) rfl dX1_lastTold_69 ?_
        refine J_iload rfl dX1_lastTold_71 ?_
        refine J_iconst (by decide) dX1_lastTold_73 ?_
        refine J_icmp_ne (tgt := 81) dX1_lastTold_74 (by decide) (fun c => ?_) (fun c => ?_)
        · replace K := K.2 c
          refine J_aload_n rfl dX1_lastTold_81 ?_
          refine J_aload_n rfl dX1_lastTold_82 ?_
          refine J_iload rfl dX1_lastTold_83 ?_
          refine J_b0 (J_callV (b1 := 0) (ci := 1) (vs := [vR (some t), vI u3]) (rest := []) (Or.inl rfl) ml_RX1_98 rfl (by decide) rfl rfl (Or.inl rfl) (Nat.le_of_ble_eq_true rfl) rfl dX1_lastTold_85 (WM_mono K (fun r h4 K => ?_)))
          obtain ⟨u4, rfl, K⟩ := K
          show J _ _ _ _ _ _ _ [vI u4] _
          refine J_istore (loc' := [some (vR (some 38)), some (vR (some t)), some (vI y2), some (vI y3), some (vI y4), some (vI u2), some (vI u3), some (vI u4)]) (by decide) rfl dX1_lastTold_88 ?_
          refine J_iload rfl dX1_lastTold_90 ?_
          refine J_ldc (n := (-2000000000)) (by decide) (by decide) kc_RX1_102 dX1_lastTold_92 ?_
          refine J_icmp_eq (tgt := 100) dX1_lastTold_94 (by decide) (fun c => ?_) (fun c => ?_)
          · replace K := K.1 c
            refine J_iinc (loc' := [some (vR (some 38)), some (vR (some t)), some (vI y2), some (vI y3), some (vI (y4 + (-1))), some (vI u2), some (vI u3), some (vI u4)]) (by decide) rfl K.1 rfl dX1_lastTold_100 ?_
            replace K := K.2
            refine J_goto (tgt := 14) dX1_lastTold_103 (by decide) ?_
            exact J_forget (loc' := [some (vR (some 38)), some (vR (some t)), some (vI y2), some (vI y3), some (vI (y4 + (-1))), none, none, none]) (And.intro (Or.inr rfl) (And.intro (Or.inr rfl) (And.intro (Or.inr rfl) (And.intro (Or.inr rfl) (And.intro (Or.inr rfl) (And.intro (Or.inl rfl) (And.intro (Or.inl rfl) (And.intro (Or.inl rfl) True.intro)))))))) K
          · replace K := K.2 c
            refine J_iload rfl dX1_lastTold_97 ?_
            exact J_ireturn rfl dX1_lastTold_99 K
        · replace K := K.1 c
          refine J_iconst (by decide) dX1_lastTold_77 ?_
          refine J_goto (tgt := 88) dX1_lastTold_78 (by decide) ?_
          refine J_istore (loc' := [some (vR (some 38)), some (vR (some t)), some (vI y2), some (vI y3), some (vI y4), some (vI u2), some (vI u3), some (vI 1)]) (by decide) rfl dX1_lastTold_88 ?_
          refine J_iload rfl dX1_lastTold_90 ?_
          refine J_ldc (n := (-2000000000)) (by decide) (by decide) kc_RX1_102 dX1_lastTold_92 ?_
          refine J_icmp_eq (tgt := 100) dX1_lastTold_94 (by decide) (fun c => absurd c (by decide)) (fun _ => ?_)
          refine J_iload rfl dX1_lastTold_97 ?_
          exact J_ireturn rfl dX1_lastTold_99 K
      · replace K := K.2 c
        refine J_aload_n rfl dX1_lastTold_48 ?_
        refine J_aload_n rfl dX1_lastTold_49 ?_
        refine J_iload rfl dX1_lastTold_50 ?_
        refine J_b0 (J_callV (b1 := 0) (ci := 1) (vs := [vR (some t), vI u2]) (rest := []) (Or.inl rfl) ml_RX1_98 rfl (by decide) rfl rfl (Or.inl rfl) (Nat.le_of_ble_eq_true rfl) rfl dX1_lastTold_52 (WM_mono K (fun r h5 K => ?_)))
        obtain ⟨u5, rfl, K⟩ := K
        show J _ _ _ _ _ _ _ [vI u5] _
        refine J_iconst (by decide) dX1_lastTold_55 ?_
        refine J_icmp_eq (tgt := 62) dX1_lastTold_56 (by decide) (fun c => ?_) (fun c => ?_)
        · replace K := K.1 c
          refine J_aload_n rfl dX1_lastTold_62 ?_
          refine J_iload rfl dX1_lastTold_63 ?_
          refine J_iconst (by decide) dX1_lastTold_65 ?_
          have K0 := K.1
          replace K := K.2
          refine J_b0 (J_callV (b1 := 0) (ci := 5) (vs := [vI y4, vI 1]) (rest := []) (Or.inr rfl) ml_RX1_95 rfl (by decide) rfl rfl K0 (Nat.le_of_ble_eq_true rfl) rfl dX1_lastTold_66 (WM_mono K (fun r h6 K => ?_)))
          obtain ⟨u6, rfl, K⟩ := K
          show J _ _ _ _ _ _ _ [vI u6] _
          refine J_istore (loc' := [some (vR (some 38)), some (vR (some t)), some (vI y2), some (vI y3), some (vI y4), some (vI u2), some (vI u6), none]) (by decide) rfl dX1_lastTold_69 ?_
          refine J_iload rfl dX1_lastTold_71 ?_
          refine J_iconst (by decide) dX1_lastTold_73 ?_
          refine J_icmp_ne (tgt := 81) dX1_lastTold_74 (by decide) (fun c => ?_) (fun c => ?_)
          · replace K := K.2 c
            refine J_aload_n rfl dX1_lastTold_81 ?_
            refine J_aload_n rfl dX1_lastTold_82 ?_
            refine J_iload rfl dX1_lastTold_83 ?_
            refine J_b0 (J_callV (b1 := 0) (ci := 1) (vs := [vR (some t), vI u6]) (rest := []) (Or.inl rfl) ml_RX1_98 rfl (by decide) rfl rfl (Or.inl rfl) (Nat.le_of_ble_eq_true rfl) rfl dX1_lastTold_85 (WM_mono K (fun r h7 K => ?_)))
            obtain ⟨u7, rfl, K⟩ := K
            show J _ _ _ _ _ _ _ [vI u7] _
            refine J_istore (loc' := [some (vR (some 38)), some (vR (some t)), some (vI y2), some (vI y3), some (vI y4), some (vI u2), some (vI u6), some (vI u7)]) (by decide) rfl dX1_lastTold_88 ?_
            refine J_iload rfl dX1_lastTold_90 ?_
            refine J_ldc (n := (-2000000000)) (by decide) (by decide) kc_RX1_102 dX1_lastTold_92 ?_
            refine J_icmp_eq (tgt := 100) dX1_lastTold_94 (by decide) (fun c => ?_) (fun c => ?_)
            · replace K := K.1 c
              refine J_iinc (loc' := [some (vR (some 38)), some (vR (some t)), some (vI y2), some (vI y3), some (vI (y4 + (-1))), some (vI u2), some (vI u6), some (vI u7)]) (by decide) rfl K.1 rfl dX1_lastTold_100 ?_
              replace K := K.2
              refine J_goto (tgt := 14) dX1_lastTold_103 (by decide) ?_
              exact J_forget (loc' := [some (vR (some 38)), some (vR (some t)), some (vI y2), some (vI y3), some (vI (y4 + (-1))), none, none, none]) (And.intro (Or.inr rfl) (And.intro (Or.inr rfl) (And.intro (Or.inr rfl) (And.intro (Or.inr rfl) (And.intro (Or.inr rfl) (And.intro (Or.inl rfl) (And.intro (Or.inl rfl) (And.intro (Or.inl rfl) True.intro)))))))) K
            · replace K := K.2 c
              refine J_iload rfl dX1_lastTold_97 ?_
              exact J_ireturn rfl dX1_lastTold_99 K
          · replace K := K.1 c
            refine J_iconst (by decide) dX1_lastTold_77 ?_
            refine J_goto (tgt := 88) dX1_lastTold_78 (by decide) ?_
            refine J_istore (loc' := [some (vR (some 38)), some (vR (some t)), some (vI y2), some (vI y3), some (vI y4), some (vI u2), some (vI u6), some (vI 1)]) (by decide) rfl dX1_lastTold_88 ?_
            refine J_iload rfl dX1_lastTold_90 ?_
            refine J_ldc (n := (-2000000000)) (by decide) (by decide) kc_RX1_102 dX1_lastTold_92 ?_
            refine J_icmp_eq (tgt := 100) dX1_lastTold_94 (by decide) (fun c => absurd c (by decide)) (fun _ => ?_)
            refine J_iload rfl dX1_lastTold_97 ?_
            exact J_ireturn rfl dX1_lastTold_99 K
        · replace K := K.2 c
          refine J_goto (tgt := 100) dX1_lastTold_59 (by decide) ?_
          refine J_iinc (loc' := [some (vR (some 38)), some (vR (some t)), some (vI y2), some (vI y3), some (vI (y4 + (-1))), some (vI u2), none, none]) (by decide) rfl K.1 rfl dX1_lastTold_100 ?_
          replace K := K.2
          refine J_goto (tgt := 14) dX1_lastTold_103 (by decide) ?_
          exact J_forget (loc' := [some (vR (some 38)), some (vR (some t)), some (vI y2), some (vI y3), some (vI (y4 + (-1))), none, none, none]) (And.intro (Or.inr rfl) (And.intro (Or.inr rfl) (And.intro (Or.inr rfl) (And.intro (Or.inr rfl) (And.intro (Or.inr rfl) (And.intro (Or.inl rfl) (And.intro (Or.inl rfl) (And.intro (Or.inl rfl) True.intro)))))))) K
    · replace K := K.2 c
      refine J_goto (tgt := 100) dX1_lastTold_30 (by decide) ?_
      refine J_iinc (loc' := [some (vR (some 38)), some (vR (some t)), some (vI y2), some (vI y3), some (vI (y4 + (-1))), none, none, none]) (by decide) rfl K.1 rfl dX1_lastTold_100 ?_
      replace K := K.2
      refine J_goto (tgt := 14) dX1_lastTold_103 (by decide) ?_
      exact J_forget (loc' := [some (vR (some 38)), some (vR (some t)), some (vI y2), some (vI y3), some (vI (y4 + (-1))), none, none, none]) (And.intro (Or.inr rfl) (And.intro (Or.inr rfl) (And.intro (Or.inr rfl) (And.intro (Or.inr rfl) (And.intro (Or.inr rfl) (And.intro (Or.inl rfl) (And.intro (Or.inl rfl) (And.intro (Or.inl rfl) True.intro)))))))) K
set_option maxRecDepth 20000 in
set_option maxHeartbeats 2000000 in
theorem w_X1_lastTold {d b : Nat} {Q : Option AV → AH → Prop} {h : AH} {t : Nat} {x2 : Int} {x3 : Int} (kt : Kd GX h t (.inl 5)) (K : R32 ((gi h t 0) - 1) ∧ Lp_X1_lastTold_14 d b Q t x2 x3 ((gi h t 0) - 1) h) : WM GX (d + 2) b mX1_lastTold [vR (some 38), vR (some t), vI x2, vI x3] h Q := by
  refine WM_introE (loc' := [some (vR (some 38)), some (vR (some t)), some (vI x2), some (vI x3), none, none, none, none]) rfl (by decide) (Nat.le_of_ble_eq_true rfl) ?_
  refine J_aload_n rfl dX1_lastTold_0 ?_
  refine J_ifnonnull (tgt := 6) dX1_lastTold_1 (by decide) (fun _ => ?_) (fun c => absurd c (by simp))
  refine J_aload_n rfl dX1_lastTold_6 ?_
  refine J_getI fl_RX1_92 rfl kt dX1_lastTold_7 ?_
  refine J_iconst (by decide) dX1_lastTold_10 ?_
  refine J_isub K.1 dX1_lastTold_11 ?_
  replace K := K.2
  refine J_istore (loc' := [some (vR (some 38)), some (vR (some t)), some (vI x2), some (vI x3), some (vI ((gi h t 0) - 1)), none, none, none]) (by decide) rfl dX1_lastTold_12 ?_
  exact J_forget (loc' := [some (vR (some 38)), some (vR (some t)), some (vI x2), some (vI x3), some (vI ((gi h t 0) - 1)), none, none, none]) (And.intro (Or.inr rfl) (And.intro (Or.inr rfl) (And.intro (Or.inr rfl) (And.intro (Or.inr rfl) (And.intro (Or.inr rfl) (And.intro (Or.inl rfl) (And.intro (Or.inl rfl) (And.intro (Or.inl rfl) True.intro)))))))) K
set_option maxRecDepth 20000 in
set_option maxHeartbeats 2000000 in
theorem w_X1_catchOf {d b : Nat} {Q : Option AV → AH → Prop} {h : AH} {o : Nat} {x2 : Int} {x3 : Int} {x4 : Int} (ho : isl o) (K : WM GX (d + 2) 0 mX1_learnOf [vR (some 38), vR (some o), vI x2, vI (-1), vI x3, vI x4] h (fun r h1 => r = none ∧ WM GX (d + 2) 0 mX0_lawInForce [vR (some o)] h1 (fun r h2 => ∃ u2, r = some (vR u2) ∧ (0 ≤ x2 ∧ x2 < 8) ∧ R32 ((gi h2 (o + 2) x2) * 3) ∧ WM GX (d + 2) 0 mX1_lastTold [vR (some 38), vR u2, vI 0, vI ((gi h2 (o + 2) x2) * 3)] h2 (fun r h3 => ∃ u3, r = some (vI u3) ∧ Q (some (vI (min (max 0 (min u3 99)) x4))) h3)))) : WM GX (d + 3) b mX1_catchOf [vR (some 38), vR (some o), vI x2, vI x3, vI x4] h Q := by
  refine WM_introE (loc' := [some (vR (some 38)), some (vR (some o)), some (vI x2), some (vI x3), some (vI x4), none]) rfl (by decide) (Nat.le_of_ble_eq_true rfl) ?_
  refine J_aload_n rfl dX1_catchOf_0 ?_
  refine J_aload_n rfl dX1_catchOf_1 ?_
  refine J_iload_n rfl dX1_catchOf_2 ?_
  refine J_iconst (by decide) dX1_catchOf_3 ?_
  refine J_iload_n rfl dX1_catchOf_4 ?_
  refine J_iload rfl dX1_catchOf_5 ?_
  refine J_b0 (J_callV (b1 := 0) (ci := 1) (vs := [vR (some o), vI x2, vI (-1), vI x3, vI x4]) (rest := []) (Or.inl rfl) ml_RX1_59 rfl (by decide) rfl rfl (Or.inl rfl) (Nat.le_of_ble_eq_true rfl) rfl dX1_catchOf_7 (WM_mono K (fun r h1 K => ?_)))
  obtain ⟨rfl, K⟩ := K
  show J _ _ _ _ _ _ _ [] _
  refine J_aload_n rfl dX1_catchOf_10 ?_
  refine J_aload_n rfl dX1_catchOf_11 ?_
  refine J_b0 (J_callV (b1 := 0) (ci := 0) (vs := []) (rest := [vR (some 38)]) (Or.inr rfl) ml_RX1_63 rfl (by decide) rfl rfl (Or.inl (gx_isl ho)) (Nat.le_of_ble_eq_true rfl) rfl dX1_catchOf_12 (WM_mono K (fun r h2 K => ?_)))
  obtain ⟨u2, rfl, K⟩ := K
  show J _ _ _ _ _ _ _ [vR u2, vR (some 38)] _
  refine J_iconst (by decide) dX1_catchOf_15 ?_
  refine J_aload_n rfl dX1_catchOf_16 ?_
  refine J_getS (r := o + 2) fl_RX1_41 rfl (Or.inl (gx_isl ho)) (gx_r2 ho) dX1_catchOf_17 ?_
  refine J_iload_n rfl dX1_catchOf_20 ?_
  refine J_iaload (Or.inl (gx_a2 ho)) K.1 dX1_catchOf_21 ?_
  replace K := K.2
  refine J_iconst (by decide) dX1_catchOf_22 ?_
  refine J_imul K.1 dX1_catchOf_23 ?_
  replace K := K.2
  refine J_b0 (J_callV (b1 := 0) (ci := 1) (vs := [vR u2, vI 0, vI _]) (rest := []) (Or.inl rfl) ml_RX1_67 rfl (by decide) rfl rfl (Or.inl rfl) (Nat.le_of_ble_eq_true rfl) rfl dX1_catchOf_24 (WM_mono K (fun r h3 K => ?_)))
  obtain ⟨u3, rfl, K⟩ := K
  show J _ _ _ _ _ _ _ [vI u3] _
  refine J_istore (loc' := [some (vR (some 38)), some (vR (some o)), some (vI x2), some (vI x3), some (vI x4), some (vI u3)]) (by decide) rfl dX1_catchOf_27 ?_
  refine J_iconst (by decide) dX1_catchOf_29 ?_
  refine J_iload rfl dX1_catchOf_30 ?_
  refine J_bipush (by decide) (by decide) dX1_catchOf_32 ?_
  refine J_mmin ml_RX1_71 (Nat.le_of_ble_eq_true rfl) dX1_catchOf_34 ?_
  refine J_mmax ml_RX1_77 (Nat.le_of_ble_eq_true rfl) dX1_catchOf_37 ?_
  refine J_iload rfl dX1_catchOf_40 ?_
  refine J_mmin ml_RX1_71 (Nat.le_of_ble_eq_true rfl) dX1_catchOf_42 ?_
  exact J_ireturn rfl dX1_catchOf_45 K
set_option maxRecDepth 20000 in
set_option maxHeartbeats 2000000 in
theorem w_X1_slamOf {d b : Nat} {Q : Option AV → AH → Prop} {h : AH} {o : Nat} {x2 : Int} {x3 : Int} (ho : isl o) (K : (0 ≤ x3 ∧ x3 < 25) ∧ WM GX (d + 2) 0 mX1_learnOf [vR (some 38), vR (some o), vI x2, vI (-1), vI x3, vI (gi h (o + 9) x3)] h (fun r h1 => r = none ∧ WM GX (d + 2) 0 mX0_lawInForce [vR (some o)] h1 (fun r h2 => ∃ u2, r = some (vR u2) ∧ WM GX (d + 2) 0 mX1_lastTold [vR (some 38), vR u2, vI 1, vI 1] h2 (fun r h3 => ∃ u3, r = some (vI u3) ∧ Q (some (vI (max 0 (min u3 10)))) h3)))) : WM GX (d + 3) b mX1_slamOf [vR (some 38), vR (some o), vI x2, vI x3] h Q := by
  refine WM_introE (loc' := [some (vR (some 38)), some (vR (some o)), some (vI x2), some (vI x3)]) rfl (by decide) (Nat.le_of_ble_eq_true rfl) ?_
  refine J_aload_n rfl dX1_slamOf_0 ?_
  refine J_aload_n rfl dX1_slamOf_1 ?_
  refine J_iload_n rfl dX1_slamOf_2 ?_
  refine J_iconst (by decide) dX1_slamOf_3 ?_
  refine J_iload_n rfl dX1_slamOf_4 ?_
  refine J_aload_n rfl dX1_slamOf_5 ?_
  refine J_getS (r := o + 9) fl_RX1_80 rfl (Or.inl (gx_isl ho)) (gx_r9 ho) dX1_slamOf_6 ?_
  refine J_iload_n rfl dX1_slamOf_9 ?_
  refine J_iaload (Or.inl (gx_a9 ho)) K.1 dX1_slamOf_10 ?_
  replace K := K.2
  refine J_b0 (J_callV (b1 := 0) (ci := 1) (vs := [vR (some o), vI x2, vI (-1), vI x3, vI (gi h (o + 9) x3)]) (rest := []) (Or.inl rfl) ml_RX1_59 rfl (by decide) rfl rfl (Or.inl rfl) (Nat.le_of_ble_eq_true rfl) rfl dX1_slamOf_11 (WM_mono K (fun r h1 K => ?_)))
  obtain ⟨rfl, K⟩ := K
  show J _ _ _ _ _ _ _ [] _
  refine J_iconst (by decide) dX1_slamOf_14 ?_
  refine J_aload_n rfl dX1_slamOf_15 ?_
  refine J_aload_n rfl dX1_slamOf_16 ?_
  refine J_b0 (J_callV (b1 := 0) (ci := 0) (vs := []) (rest := [vR (some 38), vI 0]) (Or.inr rfl) ml_RX1_63 rfl (by decide) rfl rfl (Or.inl (gx_isl ho)) (Nat.le_of_ble_eq_true rfl) rfl dX1_slamOf_17 (WM_mono K (fun r h2 K => ?_)))
  obtain ⟨u2, rfl, K⟩ := K
  show J _ _ _ _ _ _ _ [vR u2, vR (some 38), vI 0] _
  refine J_iconst (by decide) dX1_slamOf_20 ?_
  refine J_iconst (by decide) dX1_slamOf_21 ?_
  refine J_b0 (J_callV (b1 := 0) (ci := 1) (vs := [vR u2, vI 1, vI 1]) (rest := [vI 0]) (Or.inl rfl) ml_RX1_67 rfl (by decide) rfl rfl (Or.inl rfl) (Nat.le_of_ble_eq_true rfl) rfl dX1_slamOf_22 (WM_mono K (fun r h3 K => ?_)))
  obtain ⟨u3, rfl, K⟩ := K
  show J _ _ _ _ _ _ _ [vI u3, vI 0] _
  refine J_bipush (by decide) (by decide) dX1_slamOf_25 ?_
  refine J_mmin ml_RX1_71 (Nat.le_of_ble_eq_true rfl) dX1_slamOf_27 ?_
  refine J_mmax ml_RX1_77 (Nat.le_of_ble_eq_true rfl) dX1_slamOf_30 ?_
  exact J_ireturn rfl dX1_slamOf_33 K
set_option maxRecDepth 20000 in
set_option maxHeartbeats 2000000 in
theorem w_X1_isFitting {d b : Nat} {Q : Option AV → AH → Prop} {h : AH} {o : Nat} {x2 : Int} {x3 : Int} (ho : isl o) (K : WM GX (d + 2) 0 mX0_lawInForce [vR (some o)] h (fun r h1 => ∃ u1, r = some (vR u1) ∧ (u1 = none → (0 ≤ x2 ∧ x2 < 8) ∧ (0 ≤ x3 ∧ x3 < 8) ∧ R32 ((gi h1 (o + 2) x2) - (gi h1 (o + 1) x3)) ∧ R32 (-((gi h1 (o + 2) x2) - (gi h1 (o + 1) x3))) ∧ (1 < zabs ((gi h1 (o + 2) x2) - (gi h1 (o + 1) x3)) → Q (some (vI 0)) h1) ∧ (¬(1 < zabs ((gi h1 (o + 2) x2) - (gi h1 (o + 1) x3))) → Q (some (vI 1)) h1)) ∧ (∀ t2, u1 = some t2 → Kd GX h1 t2 (.inl 5) ∧ WM GX (d + 2) 0 mX5_has [vR (some t2), vI 2] h1 (fun r h2 => ∃ u3, r = some (vI u3) ∧ (u3 = 0 → (0 ≤ x2 ∧ x2 < 8) ∧ (0 ≤ x3 ∧ x3 < 8) ∧ R32 ((gi h2 (o + 2) x2) - (gi h2 (o + 1) x3)) ∧ R32 (-((gi h2 (o + 2) x2) - (gi h2 (o + 1) x3))) ∧ (1 < zabs ((gi h2 (o + 2) x2) - (gi h2 (o + 1) x3)) → Q (some (vI 0)) h2) ∧ (¬(1 < zabs ((gi h2 (o + 2) x2) - (gi h2 (o + 1) x3))) → Q (some (vI 1)) h2)) ∧ (¬(u3 = 0) → WM GX (d + 2) 0 mX1_learnOf [vR (some 38), vR (some o), vI x2, vI x3, vI (-1), vI (-1)] h2 (fun r h3 => r = none ∧ WM GX (d + 2) 0 mX1_lastTold [vR (some 38), vR (some t2), vI 2, vI 0] h3 (fun r h4 => ∃ u5, r = some (vI u5) ∧ (u5 = 1 → Q (some (vI 1)) h4) ∧ (¬(u5 = 1) → Q (some (vI 0)) h4)))))))) : WM GX (d + 3) b mX1_isFitting [vR (some 38), vR (some o), vI x2, vI x3] h Q := by
  refine WM_introE (loc' := [some (vR (some 38)), some (vR (some o)), some (vI x2), some (vI x3), none]) rfl (by decide) (Nat.le_of_ble_eq_true rfl) ?_
  refine J_aload_n rfl dX1_isFitting_0 ?_
  refine J_b0 (J_callV (b1 := 0) (ci := 0) (vs := []) (rest := []) (Or.inr rfl) ml_RX1_63 rfl (by decide) rfl rfl (Or.inl (gx_isl ho)) (Nat.le_of_ble_eq_true rfl) rfl dX1_isFitting_1 (WM_mono K (fun r h1 K => ?_)))
  obtain ⟨u1, rfl, K⟩ := K
  show J _ _ _ _ _ _ _ [vR u1] _
  refine J_astore (loc' := [some (vR (some 38)), some (vR (some o)), some (vI x2), some (vI x3), some (vR u1)]) (by decide) rfl dX1_isFitting_4 ?_
  refine J_aload rfl dX1_isFitting_6 ?_
  refine J_ifnull (tgt := 20) dX1_isFitting_8 (by decide) (fun c => ?_) (fun c => ?_)
  · replace K := K.1 c
    try rw [c]
    refine J_aload_n rfl dX1_isFitting_20 ?_
    refine J_getS (r := o + 2) fl_RX1_41 rfl (Or.inl (gx_isl ho)) (gx_r2 ho) dX1_isFitting_21 ?_
    refine J_iload_n rfl dX1_isFitting_24 ?_
    refine J_iaload (Or.inl (gx_a2 ho)) K.1 dX1_isFitting_25 ?_
    replace K := K.2
    refine J_aload_n rfl dX1_isFitting_26 ?_
    refine J_getS (r := o + 1) fl_RX1_53 rfl (Or.inl (gx_isl ho)) (gx_r1 ho) dX1_isFitting_27 ?_
    refine J_iload_n rfl dX1_isFitting_30 ?_
    refine J_iaload (Or.inl (gx_a1 ho)) K.1 dX1_isFitting_31 ?_
    replace K := K.2
    refine J_isub K.1 dX1_isFitting_32 ?_
    replace K := K.2
    refine J_mabs K.1 ml_RX1_88 (Nat.le_of_ble_eq_true rfl) dX1_isFitting_33 ?_
    replace K := K.2
    refine J_iconst (by decide) dX1_isFitting_36 ?_
    refine J_icmp_gt (tgt := 44) dX1_isFitting_37 (by decide) (fun c => ?_) (fun c => ?_)
    · replace K := K.1 c
      refine J_iconst (by decide) dX1_isFitting_44 ?_
      exact J_zreturn ⟨rfl, by decide⟩ dX1_isFitting_45 K
    · replace K := K.2 c
      refine J_iconst (by decide) dX1_isFitting_40 ?_
      refine J_goto (tgt := 45) dX1_isFitting_41 (by decide) ?_
      exact J_zreturn ⟨rfl, by decide⟩ dX1_isFitting_45 K
  · obtain ⟨t2, et2⟩ := Option.ne_none_iff_exists'.mp c
    replace K := K.2 t2 et2
    try rw [et2]
    refine J_aload rfl dX1_isFitting_11 ?_
    refine J_iconst (by decide) dX1_isFitting_13 ?_
    have K0 := K.1
    replace K := K.2
    refine J_b0 (J_callV (b1 := 0) (ci := 5) (vs := [vI 2]) (rest := []) (Or.inr rfl) ml_RX1_83 rfl (by decide) rfl rfl K0 (Nat.le_of_ble_eq_true rfl) rfl dX1_isFitting_14 (WM_mono K (fun r h2 K => ?_)))
    obtain ⟨u3, rfl, K⟩ := K
    show J _ _ _ _ _ _ _ [vI u3] _
    refine J_if_ne (tgt := 46) dX1_isFitting_17 (by decide) (fun c => ?_) (fun c => ?_)
    · replace K := K.2 c
      refine J_aload_n rfl dX1_isFitting_46 ?_
      refine J_aload_n rfl dX1_isFitting_47 ?_
      refine J_iload_n rfl dX1_isFitting_48 ?_
      refine J_iload_n rfl dX1_isFitting_49 ?_
      refine J_iconst (by decide) dX1_isFitting_50 ?_
      refine J_iconst (by decide) dX1_isFitting_51 ?_
      refine J_b0 (J_callV (b1 := 0) (ci := 1) (vs := [vR (some o), vI x2, vI x3, vI (-1), vI (-1)]) (rest := []) (Or.inl rfl) ml_RX1_59 rfl (by decide) rfl rfl (Or.inl rfl) (Nat.le_of_ble_eq_true rfl) rfl dX1_isFitting_52 (WM_mono K (fun r h3 K => ?_)))
      obtain ⟨rfl, K⟩ := K
      show J _ _ _ _ _ _ _ [] _
      refine J_aload_n rfl dX1_isFitting_55 ?_
      refine J_aload rfl dX1_isFitting_56 ?_
      refine J_iconst (by decide) dX1_isFitting_58 ?_
      refine J_iconst (by decide) dX1_isFitting_59 ?_
      refine J_b0 (J_callV (b1 := 0) (ci := 1) (vs := [vR (some t2), vI 2, vI 0]) (rest := []) (Or.inl rfl) ml_RX1_67 rfl (by decide) rfl rfl (Or.inl rfl) (Nat.le_of_ble_eq_true rfl) rfl dX1_isFitting_60 (WM_mono K (fun r h4 K => ?_)))
      obtain ⟨u5, rfl, K⟩ := K
      show J _ _ _ _ _ _ _ [vI u5] _
      refine J_iconst (by decide) dX1_isFitting_63 ?_
      refine J_icmp_ne (tgt := 71) dX1_isFitting_64 (by decide) (fun c => ?_) (fun c => ?_)
      · replace K := K.2 c
        refine J_iconst (by decide) dX1_isFitting_71 ?_
        exact J_zreturn ⟨rfl, by decide⟩ dX1_isFitting_72 K
      · replace K := K.1 c
        refine J_iconst (by decide) dX1_isFitting_67 ?_
        refine J_goto (tgt := 72) dX1_isFitting_68 (by decide) ?_
        exact J_zreturn ⟨rfl, by decide⟩ dX1_isFitting_72 K
    · replace K := K.1 c
      refine J_aload_n rfl dX1_isFitting_20 ?_
      refine J_getS (r := o + 2) fl_RX1_41 rfl (Or.inl (gx_isl ho)) (gx_r2 ho) dX1_isFitting_21 ?_
      refine J_iload_n rfl dX1_isFitting_24 ?_
      refine J_iaload (Or.inl (gx_a2 ho)) K.1 dX1_isFitting_25 ?_
      replace K := K.2
      refine J_aload_n rfl dX1_isFitting_26 ?_
      refine J_getS (r := o + 1) fl_RX1_53 rfl (Or.inl (gx_isl ho)) (gx_r1 ho) dX1_isFitting_27 ?_
      refine J_iload_n rfl dX1_isFitting_30 ?_
      refine J_iaload (Or.inl (gx_a1 ho)) K.1 dX1_isFitting_31 ?_
      replace K := K.2
      refine J_isub K.1 dX1_isFitting_32 ?_
      replace K := K.2
      refine J_mabs K.1 ml_RX1_88 (Nat.le_of_ble_eq_true rfl) dX1_isFitting_33 ?_
      replace K := K.2
      refine J_iconst (by decide) dX1_isFitting_36 ?_
      refine J_icmp_gt (tgt := 44) dX1_isFitting_37 (by decide) (fun c => ?_) (fun c => ?_)
      · replace K := K.1 c
        refine J_iconst (by decide) dX1_isFitting_44 ?_
        exact J_zreturn ⟨rfl, by decide⟩ dX1_isFitting_45 K
      · replace K := K.2 c
        refine J_iconst (by decide) dX1_isFitting_40 ?_
        refine J_goto (tgt := 45) dX1_isFitting_41 (by decide) ?_
        exact J_zreturn ⟨rfl, by decide⟩ dX1_isFitting_45 K
set_option maxRecDepth 20000 in
set_option maxHeartbeats 2000000 in
theorem w_X1_isBarred {d b : Nat} {Q : Option AV → AH → Prop} {h : AH} {o : Nat} {x2 : Int} (ho : isl o) (K : (0 ≤ x2 ∧ x2 < 8) ∧ (gi h (o + 6) x2 = (-1) → Q (some (vI 0)) h) ∧ (¬(gi h (o + 6) x2 = (-1)) → WM GX (d + 2) 0 mX1_learnOf [vR (some 38), vR (some o), vI x2, vI (gi h (o + 6) x2), vI (-1), vI (-1)] h (fun r h1 => r = none ∧ WM GX (d + 2) 0 mX0_lawInForce [vR (some o)] h1 (fun r h2 => ∃ u2, r = some (vR u2) ∧ WM GX (d + 2) 0 mX1_lastTold [vR (some 38), vR u2, vI 3, vI 0] h2 (fun r h3 => ∃ u3, r = some (vI u3) ∧ (u3 = 1 → Q (some (vI 1)) h3) ∧ (¬(u3 = 1) → Q (some (vI 0)) h3)))))) : WM GX (d + 3) b mX1_isBarred [vR (some 38), vR (some o), vI x2] h Q := by
  refine WM_introE (loc' := [some (vR (some 38)), some (vR (some o)), some (vI x2), none]) rfl (by decide) (Nat.le_of_ble_eq_true rfl) ?_
  refine J_aload_n rfl dX1_isBarred_0 ?_
  refine J_getS (r := o + 6) fl_RX1_35 rfl (Or.inl (gx_isl ho)) (gx_r6 ho) dX1_isBarred_1 ?_
  refine J_iload_n rfl dX1_isBarred_4 ?_
  refine J_iaload (Or.inl (gx_a6 ho)) K.1 dX1_isBarred_5 ?_
  replace K := K.2
  refine J_istore_n (loc' := [some (vR (some 38)), some (vR (some o)), some (vI x2), some (vI (gi h (o + 6) x2))]) (by decide) rfl dX1_isBarred_6 ?_
  refine J_iload_n rfl dX1_isBarred_7 ?_
  refine J_iconst (by decide) dX1_isBarred_8 ?_
  refine J_icmp_ne (tgt := 14) dX1_isBarred_9 (by decide) (fun c => ?_) (fun c => ?_)
  · replace K := K.2 c
    refine J_aload_n rfl dX1_isBarred_14 ?_
    refine J_aload_n rfl dX1_isBarred_15 ?_
    refine J_iload_n rfl dX1_isBarred_16 ?_
    refine J_iload_n rfl dX1_isBarred_17 ?_
    refine J_iconst (by decide) dX1_isBarred_18 ?_
    refine J_iconst (by decide) dX1_isBarred_19 ?_
    refine J_b0 (J_callV (b1 := 0) (ci := 1) (vs := [vR (some o), vI x2, vI (gi h (o + 6) x2), vI (-1), vI (-1)]) (rest := []) (Or.inl rfl) ml_RX1_59 rfl (by decide) rfl rfl (Or.inl rfl) (Nat.le_of_ble_eq_true rfl) rfl dX1_isBarred_20 (WM_mono K (fun r h1 K => ?_)))
    obtain ⟨rfl, K⟩ := K
    show J _ _ _ _ _ _ _ [] _
    refine J_aload_n rfl dX1_isBarred_23 ?_
    refine J_aload_n rfl dX1_isBarred_24 ?_
    refine J_b0 (J_callV (b1 := 0) (ci := 0) (vs := []) (rest := [vR (some 38)]) (Or.inr rfl) ml_RX1_63 rfl (by decide) rfl rfl (Or.inl (gx_isl ho)) (Nat.le_of_ble_eq_true rfl) rfl dX1_isBarred_25 (WM_mono K (fun r h2 K => ?_)))
    obtain ⟨u2, rfl, K⟩ := K
    show J _ _ _ _ _ _ _ [vR u2, vR (some 38)] _
    refine J_iconst (by decide) dX1_isBarred_28 ?_
    refine J_iconst (by decide) dX1_isBarred_29 ?_
    refine J_b0 (J_callV (b1 := 0) (ci := 1) (vs := [vR u2, vI 3, vI 0]) (rest := []) (Or.inl rfl) ml_RX1_67 rfl (by decide) rfl rfl (Or.inl rfl) (Nat.le_of_ble_eq_true rfl) rfl dX1_isBarred_30 (WM_mono K (fun r h3 K => ?_)))
    obtain ⟨u3, rfl, K⟩ := K
    show J _ _ _ _ _ _ _ [vI u3] _
    refine J_iconst (by decide) dX1_isBarred_33 ?_
    refine J_icmp_ne (tgt := 41) dX1_isBarred_34 (by decide) (fun c => ?_) (fun c => ?_)
    · replace K := K.2 c
      refine J_iconst (by decide) dX1_isBarred_41 ?_
      exact J_zreturn ⟨rfl, by decide⟩ dX1_isBarred_42 K
    · replace K := K.1 c
      refine J_iconst (by decide) dX1_isBarred_37 ?_
      refine J_goto (tgt := 42) dX1_isBarred_38 (by decide) ?_
      exact J_zreturn ⟨rfl, by decide⟩ dX1_isBarred_42 K
  · replace K := K.1 c
    refine J_iconst (by decide) dX1_isBarred_12 ?_
    exact J_zreturn ⟨rfl, by decide⟩ dX1_isBarred_13 K
