set_option maxRecDepth 20000 in
set_option maxHeartbeats 2000000 in
theorem w_X2_worthOf {d b : Nat} {Q : Option AV → AH → Prop} {h : AH} {x1 : Int} {x2 : Int} {x3 : Int}  (K : R32 (x1 * 8) ∧ R32 ((x1 * 8) + x2) ∧ (0 ≤ (x1 * 8) + x2 ∧ (x1 * 8) + x2 < 64) ∧ (gi h 44 ((x1 * 8) + x2) = (-1) → Q (some (vI (-1))) h) ∧ (¬(gi h 44 ((x1 * 8) + x2) = (-1)) → (zand (zshr x3 x2) 1 = 1 → Q (some (vI (-1))) h) ∧ (¬(zand (zshr x3 x2) 1 = 1) → R32 (x1 + 1) ∧ R32 ((x1 + 1) * 256) ∧ R32 (((x1 + 1) * 256) + (zor x3 (zshl 1 x2))) ∧ (0 ≤ ((x1 + 1) * 256) + (zor x3 (zshl 1 x2)) ∧ ((x1 + 1) * 256) + (zor x3 (zshl 1 x2)) < 2304) ∧ R32 ((gi h 44 ((x1 * 8) + x2)) + (gi h 45 (((x1 + 1) * 256) + (zor x3 (zshl 1 x2))))) ∧ Q (some (vI ((gi h 44 ((x1 * 8) + x2)) + (gi h 45 (((x1 + 1) * 256) + (zor x3 (zshl 1 x2))))))) h))) : WM GX d b mX2_worthOf [vR (some 43), vI x1, vI x2, vI x3] h Q := by
  refine WM_introE (loc' := [some (vR (some 43)), some (vI x1), some (vI x2), some (vI x3), none]) rfl (by decide) (Nat.le_of_ble_eq_true rfl) ?_
  refine J_aload_n rfl dX2_worthOf_0 ?_
  refine J_getS (r := 44) fl_RX2_9 rfl (Or.inl rfl) rfl dX2_worthOf_1 ?_
  refine J_iload_n rfl dX2_worthOf_4 ?_
  refine J_bipush (by decide) (by decide) dX2_worthOf_5 ?_
  refine J_imul K.1 dX2_worthOf_7 ?_
  replace K := K.2
  refine J_iload_n rfl dX2_worthOf_8 ?_
  refine J_iadd K.1 dX2_worthOf_9 ?_
  replace K := K.2
  refine J_iaload (Or.inl rfl) K.1 dX2_worthOf_10 ?_
  replace K := K.2
  refine J_istore (loc' := [some (vR (some 43)), some (vI x1), some (vI x2), some (vI x3), some (vI (gi h 44 ((x1 * 8) + x2)))]) (by decide) rfl dX2_worthOf_11 ?_
  refine J_iload rfl dX2_worthOf_13 ?_
  refine J_iconst (by decide) dX2_worthOf_15 ?_
  refine J_icmp_eq (tgt := 28) dX2_worthOf_16 (by decide) (fun c => ?_) (fun c => ?_)
  · replace K := K.1 c
    refine J_iconst (by decide) dX2_worthOf_28 ?_
    exact J_ireturn rfl dX2_worthOf_29 K
  · replace K := K.2 c
    refine J_iload_n rfl dX2_worthOf_19 ?_
    refine J_iload_n rfl dX2_worthOf_20 ?_
    refine J_ishr dX2_worthOf_21 ?_
    refine J_iconst (by decide) dX2_worthOf_22 ?_
    refine J_iand dX2_worthOf_23 ?_
    refine J_iconst (by decide) dX2_worthOf_24 ?_
    refine J_icmp_ne (tgt := 30) dX2_worthOf_25 (by decide) (fun c => ?_) (fun c => ?_)
    · replace K := K.2 c
      refine J_iload rfl dX2_worthOf_30 ?_
      refine J_aload_n rfl dX2_worthOf_32 ?_
      refine J_getS (r := 45) fl_RX2_15 rfl (Or.inl rfl) rfl dX2_worthOf_33 ?_
      refine J_iload_n rfl dX2_worthOf_36 ?_
      refine J_iconst (by decide) dX2_worthOf_37 ?_
      refine J_iadd K.1 dX2_worthOf_38 ?_
      replace K := K.2
      refine J_sipush (by decide) (by decide) dX2_worthOf_39 ?_
      refine J_imul K.1 dX2_worthOf_42 ?_
      replace K := K.2
      refine J_iload_n rfl dX2_worthOf_43 ?_
      refine J_iconst (by decide) dX2_worthOf_44 ?_
      refine J_iload_n rfl dX2_worthOf_45 ?_
      refine J_ishl dX2_worthOf_46 ?_
      refine J_ior dX2_worthOf_47 ?_
      refine J_iadd K.1 dX2_worthOf_48 ?_
      replace K := K.2
      refine J_iaload (Or.inl rfl) K.1 dX2_worthOf_49 ?_
      replace K := K.2
      refine J_iadd K.1 dX2_worthOf_50 ?_
      replace K := K.2
      exact J_ireturn rfl dX2_worthOf_51 K
    · replace K := K.1 c
      refine J_iconst (by decide) dX2_worthOf_28 ?_
      exact J_ireturn rfl dX2_worthOf_29 K
def Lp_X2_hangAll_2 (d b : Nat) (Q : Option AV → AH → Prop)  (y3 : Int) (h : AH) : Prop := J GX (d + 4) b mX2_hangAll Q 2 [some (vR (some 43)), some (vR (some 1)), some (vR (some 38)), some (vI y3), none, none] [] h
def Lp_X2_hangAll_13 (d b : Nat) (Q : Option AV → AH → Prop)  (y3 : Int) (y4 : Int) (h : AH) : Prop := J GX (d + 4) b mX2_hangAll Q 13 [some (vR (some 43)), some (vR (some 1)), some (vR (some 38)), some (vI y3), some (vI y4), none] [] h
set_option maxRecDepth 20000 in
set_option maxHeartbeats 2000000 in
theorem l_X2_hangAll_2 {d b : Nat} {Q : Option AV → AH → Prop} {h : AH}  {y3 : Int}  (K : (gi h 1 2 ≤ y3 → WM GX (d + 3) 0 mX2_pair [vR (some 43), vI (gi h 1 2), vI (gi h 1 0)] h (fun r h1 => ∃ u1, r = some (vI u1) ∧ Q (some (vI u1)) h1)) ∧ (¬(gi h 1 2 ≤ y3) → Lp_X2_hangAll_13 d b Q y3 0 h)) : Lp_X2_hangAll_2 d b Q y3 h := by
  unfold Lp_X2_hangAll_2
  refine J_iload_n rfl dX2_hangAll_2 ?_
  refine J_aload_n rfl dX2_hangAll_3 ?_
  refine J_getI fl_RX2_30 rfl (Or.inl rfl) dX2_hangAll_4 ?_
  refine J_icmp_ge (tgt := 99) dX2_hangAll_7 (by decide) (fun c => ?_) (fun c => ?_)
  · replace K := K.1 c
    refine J_aload_n rfl dX2_hangAll_99 ?_
    refine J_aload_n rfl dX2_hangAll_100 ?_
    refine J_getI fl_RX2_30 rfl (Or.inl rfl) dX2_hangAll_101 ?_
    refine J_aload_n rfl dX2_hangAll_104 ?_
    refine J_getI fl_RX2_55 rfl (Or.inl rfl) dX2_hangAll_105 ?_
    refine J_b0 (J_callV (b1 := 0) (ci := 2) (vs := [vI (gi h 1 2), vI (gi h 1 0)]) (rest := []) (Or.inl rfl) ml_RX2_69 rfl (by decide) rfl rfl (Or.inl rfl) (Nat.le_of_ble_eq_true rfl) rfl dX2_hangAll_108 (WM_mono K (fun r h1 K => ?_)))
    obtain ⟨u1, rfl, K⟩ := K
    show J _ _ _ _ _ _ _ [vI u1] _
    exact J_ireturn rfl dX2_hangAll_111 K
  · replace K := K.2 c
    refine J_iconst (by decide) dX2_hangAll_10 ?_
    refine J_istore (loc' := [some (vR (some 43)), some (vR (some 1)), some (vR (some 38)), some (vI y3), some (vI 0), none]) (by decide) rfl dX2_hangAll_11 ?_
    exact J_forget (loc' := [some (vR (some 43)), some (vR (some 1)), some (vR (some 38)), some (vI y3), some (vI 0), none]) (And.intro (Or.inr rfl) (And.intro (Or.inr rfl) (And.intro (Or.inr rfl) (And.intro (Or.inr rfl) (And.intro (Or.inr rfl) (And.intro (Or.inl rfl) True.intro)))))) K
set_option maxRecDepth 20000 in
set_option maxHeartbeats 2000000 in
theorem l_X2_hangAll_13 {d b : Nat} {Q : Option AV → AH → Prop} {h : AH}  {y3 : Int} {y4 : Int}  (K : (gi h 1 0 ≤ y4 → R32 (y3 + 1) ∧ Lp_X2_hangAll_2 d b Q (y3 + 1) h) ∧ (¬(gi h 1 0 ≤ y4) → ((0 : Int) ≤ y3 ∧ (y3 : Int) < 8) ∧ (gi h 7 y3 = -1 ∧ gi h 8 y3 = -1 → R32 (y3 * 8) ∧ R32 ((y3 * 8) + y4) ∧ (0 ≤ (y3 * 8) + y4 ∧ (y3 * 8) + y4 < 64) ∧ ∀ h1, h1 = si h 44 ((y3 * 8) + y4) (-1) → R32 (y4 + 1) ∧ Lp_X2_hangAll_13 d b Q y3 (y4 + 1) h1) ∧ (¬(gi h 7 y3 = -1 ∧ gi h 8 y3 = -1) → WM GX (d + 3) 0 mX1_isFitting [vR (some 38), vR (some 1), vI y3, vI y4] h (fun r h2 => ∃ u2, r = some (vI u2) ∧ (u2 = 0 → R32 (y3 * 8) ∧ R32 ((y3 * 8) + y4) ∧ (0 ≤ (y3 * 8) + y4 ∧ (y3 * 8) + y4 < 64) ∧ ∀ h3, h3 = si h2 44 ((y3 * 8) + y4) (-1) → R32 (y4 + 1) ∧ Lp_X2_hangAll_13 d b Q y3 (y4 + 1) h3) ∧ (¬(u2 = 0) → R32 (y3 * 8) ∧ R32 ((y3 * 8) + y4) ∧ (0 ≤ y3 ∧ y3 < 8) ∧ (gi h2 5 y3 = y4 → (0 ≤ (y3 * 8) + y4 ∧ (y3 * 8) + y4 < 64) ∧ ∀ h5, h5 = si h2 44 ((y3 * 8) + y4) 17 → R32 (y4 + 1) ∧ Lp_X2_hangAll_13 d b Q y3 (y4 + 1) h5) ∧ (¬(gi h2 5 y3 = y4) → (0 ≤ (y3 * 8) + y4 ∧ (y3 * 8) + y4 < 64) ∧ ∀ h4, h4 = si h2 44 ((y3 * 8) + y4) 16 → R32 (y4 + 1) ∧ Lp_X2_hangAll_13 d b Q y3 (y4 + 1) h4)))))) : Lp_X2_hangAll_13 d b Q y3 y4 h := by
  unfold Lp_X2_hangAll_13
  refine J_iload rfl dX2_hangAll_13 ?_
  refine J_aload_n rfl dX2_hangAll_15 ?_
  refine J_getI fl_RX2_55 rfl (Or.inl rfl) dX2_hangAll_16 ?_
  refine J_icmp_ge (tgt := 93) dX2_hangAll_19 (by decide) (fun c => ?_) (fun c => ?_)
  · replace K := K.1 c
    refine J_iinc (loc' := [some (vR (some 43)), some (vR (some 1)), some (vR (some 38)), some (vI (y3 + 1)), some (vI y4), none]) (by decide) rfl K.1 rfl dX2_hangAll_93 ?_
    replace K := K.2
    refine J_goto (tgt := 2) dX2_hangAll_96 (by decide) ?_
    exact J_forget (loc' := [some (vR (some 43)), some (vR (some 1)), some (vR (some 38)), some (vI (y3 + 1)), none, none]) (And.intro (Or.inr rfl) (And.intro (Or.inr rfl) (And.intro (Or.inr rfl) (And.intro (Or.inr rfl) (And.intro (Or.inl rfl) (And.intro (Or.inl rfl) True.intro)))))) K
  · replace K := K.2 c
    refine J_aload_n rfl dX2_hangAll_22 ?_
    refine J_iload_n rfl dX2_hangAll_23 ?_
    refine J_b0 (J_callV (b1 := 0) (ci := 0) (vs := [vI y3]) (rest := []) (Or.inr rfl) ml_RX2_58 rfl (by decide) rfl rfl (Or.inl rfl) (Nat.le_of_ble_eq_true rfl) rfl dX2_hangAll_24 (c_X0_isLost (by decide) K.1 ?_))
    replace K := K.2
    show J _ _ _ _ _ _ _ [vI (b2i (gi h 7 y3 = -1 ∧ gi h 8 y3 = -1))] _
    refine J_if_ne (tgt := 45) dX2_hangAll_27 (by decide) (fun c => ?_) (fun c => ?_)
    · replace K := K.1 (b2i_n0.mp c)
      refine J_iconst (by decide) dX2_hangAll_45 ?_
      refine J_istore (loc' := [some (vR (some 43)), some (vR (some 1)), some (vR (some 38)), some (vI y3), some (vI y4), some (vI 0)]) (by decide) rfl dX2_hangAll_46 ?_
      refine J_aload_n rfl dX2_hangAll_48 ?_
      refine J_getS (r := 44) fl_RX2_9 rfl (Or.inl rfl) rfl dX2_hangAll_49 ?_
      refine J_iload_n rfl dX2_hangAll_52 ?_
      refine J_bipush (by decide) (by decide) dX2_hangAll_53 ?_
      refine J_imul K.1 dX2_hangAll_55 ?_
      replace K := K.2
      refine J_iload rfl dX2_hangAll_56 ?_
      refine J_iadd K.1 dX2_hangAll_58 ?_
      replace K := K.2
      refine J_iload rfl dX2_hangAll_59 ?_
      refine J_if_ne (tgt := 68) dX2_hangAll_61 (by decide) (fun c => absurd c (by decide)) (fun _ => ?_)
      refine J_iconst (by decide) dX2_hangAll_64 ?_
      refine J_goto (tgt := 86) dX2_hangAll_65 (by decide) ?_
      refine J_iastore (Or.inl rfl) K.1 dX2_hangAll_86 ?_
      replace K := K.2
      replace K := K _ rfl
      refine J_iinc (loc' := [some (vR (some 43)), some (vR (some 1)), some (vR (some 38)), some (vI y3), some (vI (y4 + 1)), some (vI 0)]) (by decide) rfl K.1 rfl dX2_hangAll_87 ?_
      replace K := K.2
      refine J_goto (tgt := 13) dX2_hangAll_90 (by decide) ?_
      exact J_forget (loc' := [some (vR (some 43)), some (vR (some 1)), some (vR (some 38)), some (vI y3), some (vI (y4 + 1)), none]) (And.intro (Or.inr rfl) (And.intro (Or.inr rfl) (And.intro (Or.inr rfl) (And.intro (Or.inr rfl) (And.intro (Or.inr rfl) (And.intro (Or.inl rfl) True.intro)))))) K
    · replace K := K.2 (b2i_0.mp c)
      refine J_aload_n rfl dX2_hangAll_30 ?_
      refine J_aload_n rfl dX2_hangAll_31 ?_
      refine J_iload_n rfl dX2_hangAll_32 ?_
      refine J_iload rfl dX2_hangAll_33 ?_
      refine J_b0 (J_callV (b1 := 0) (ci := 1) (vs := [vR (some 1), vI y3, vI y4]) (rest := []) (Or.inr rfl) ml_RX2_62 rfl (by decide) rfl rfl (Or.inl rfl) (Nat.le_of_ble_eq_true rfl) rfl dX2_hangAll_35 (WM_mono K (fun r h2 K => ?_)))
      obtain ⟨u2, rfl, K⟩ := K
      show J _ _ _ _ _ _ _ [vI u2] _
      refine J_if_eq (tgt := 45) dX2_hangAll_38 (by decide) (fun c => ?_) (fun c => ?_)
      · replace K := K.1 c
        refine J_iconst (by decide) dX2_hangAll_45 ?_
        refine J_istore (loc' := [some (vR (some 43)), some (vR (some 1)), some (vR (some 38)), some (vI y3), some (vI y4), some (vI 0)]) (by decide) rfl dX2_hangAll_46 ?_
        refine J_aload_n rfl dX2_hangAll_48 ?_
        refine J_getS (r := 44) fl_RX2_9 rfl (Or.inl rfl) rfl dX2_hangAll_49 ?_
        refine J_iload_n rfl dX2_hangAll_52 ?_
        refine J_bipush (by decide) (by decide) dX2_hangAll_53 ?_
        refine J_imul K.1 dX2_hangAll_55 ?_
        replace K := K.2
        refine J_iload rfl dX2_hangAll_56 ?_
        refine J_iadd K.1 dX2_hangAll_58 ?_
        replace K := K.2
        refine J_iload rfl dX2_hangAll_59 ?_
        refine J_if_ne (tgt := 68) dX2_hangAll_61 (by decide) (fun c => absurd c (by decide)) (fun _ => ?_)
        refine J_iconst (by decide) dX2_hangAll_64 ?_
        refine J_goto (tgt := 86) dX2_hangAll_65 (by decide) ?_
        refine J_iastore (Or.inl rfl) K.1 dX2_hangAll_86 ?_
        replace K := K.2
        replace K := K _ rfl
        refine J_iinc (loc' := [some (vR (some 43)), some (vR (some 1)), some (vR (some 38)), some (vI y3), some (vI (y4 + 1)), some (vI 0)]) (by decide) rfl K.1 rfl dX2_hangAll_87 ?_
        replace K := K.2
        refine J_goto (tgt := 13) dX2_hangAll_90 (by decide) ?_
        exact J_forget (loc' := [some (vR (some 43)), some (vR (some 1)), some (vR (some 38)), some (vI y3), some (vI (y4 + 1)), none]) (And.intro (Or.inr rfl) (And.intro (Or.inr rfl) (And.intro (Or.inr rfl) (And.intro (Or.inr rfl) (And.intro (Or.inr rfl) (And.intro (Or.inl rfl) True.intro)))))) K
      · replace K := K.2 c
        refine J_iconst (by decide) dX2_hangAll_41 ?_
        refine J_goto (tgt := 46) dX2_hangAll_42 (by decide) ?_
        refine J_istore (loc' := [some (vR (some 43)), some (vR (some 1)), some (vR (some 38)), some (vI y3), some (vI y4), some (vI 1)]) (by decide) rfl dX2_hangAll_46 ?_
        refine J_aload_n rfl dX2_hangAll_48 ?_
        refine J_getS (r := 44) fl_RX2_9 rfl (Or.inl rfl) rfl dX2_hangAll_49 ?_
        refine J_iload_n rfl dX2_hangAll_52 ?_
        refine J_bipush (by decide) (by decide) dX2_hangAll_53 ?_
        refine J_imul K.1 dX2_hangAll_55 ?_
        replace K := K.2
        refine J_iload rfl dX2_hangAll_56 ?_
        refine J_iadd K.1 dX2_hangAll_58 ?_
        replace K := K.2
        refine J_iload rfl dX2_hangAll_59 ?_
        refine J_if_ne (tgt := 68) dX2_hangAll_61 (by decide) (fun _ => ?_) (fun c => absurd c (by decide))
        refine J_aload_n rfl dX2_hangAll_68 ?_
        refine J_getS (r := 5) fl_RX2_66 rfl (Or.inl rfl) rfl dX2_hangAll_69 ?_
        refine J_iload_n rfl dX2_hangAll_72 ?_
        refine J_iaload (Or.inl rfl) K.1 dX2_hangAll_73 ?_
        replace K := K.2
        refine J_iload rfl dX2_hangAll_74 ?_
        refine J_icmp_ne (tgt := 84) dX2_hangAll_76 (by decide) (fun c => ?_) (fun c => ?_)
        · replace K := K.2 c
          refine J_bipush (by decide) (by decide) dX2_hangAll_84 ?_
          refine J_iastore (Or.inl rfl) K.1 dX2_hangAll_86 ?_
          replace K := K.2
          replace K := K _ rfl
          refine J_iinc (loc' := [some (vR (some 43)), some (vR (some 1)), some (vR (some 38)), some (vI y3), some (vI (y4 + 1)), some (vI 1)]) (by decide) rfl K.1 rfl dX2_hangAll_87 ?_
          replace K := K.2
          refine J_goto (tgt := 13) dX2_hangAll_90 (by decide) ?_
          exact J_forget (loc' := [some (vR (some 43)), some (vR (some 1)), some (vR (some 38)), some (vI y3), some (vI (y4 + 1)), none]) (And.intro (Or.inr rfl) (And.intro (Or.inr rfl) (And.intro (Or.inr rfl) (And.intro (Or.inr rfl) (And.intro (Or.inr rfl) (And.intro (Or.inl rfl) True.intro)))))) K
        · replace K := K.1 c
          refine J_bipush (by decide) (by decide) dX2_hangAll_79 ?_
          refine J_goto (tgt := 86) dX2_hangAll_81 (by decide) ?_
          refine J_iastore (Or.inl rfl) K.1 dX2_hangAll_86 ?_
          replace K := K.2
          replace K := K _ rfl
          refine J_iinc (loc' := [some (vR (some 43)), some (vR (some 1)), some (vR (some 38)), some (vI y3), some (vI (y4 + 1)), some (vI 1)]) (by decide) rfl K.1 rfl dX2_hangAll_87 ?_
          replace K := K.2
          refine J_goto (tgt := 13) dX2_hangAll_90 (by decide) ?_
          exact J_forget (loc' := [some (vR (some 43)), some (vR (some 1)), some (vR (some 38)), some (vI y3), some (vI (y4 + 1)), none]) (And.intro (Or.inr rfl) (And.intro (Or.inr rfl) (And.intro (Or.inr rfl) (And.intro (Or.inr rfl) (And.intro (Or.inr rfl) (And.intro (Or.inl rfl) True.intro)))))) K
set_option maxRecDepth 20000 in
set_option maxHeartbeats 2000000 in
theorem w_X2_hangAll {d b : Nat} {Q : Option AV → AH → Prop} {h : AH}   (K : Lp_X2_hangAll_2 d b Q 0 h) : WM GX (d + 4) b mX2_hangAll [vR (some 43), vR (some 1), vR (some 38)] h Q := by
  refine WM_introE (loc' := [some (vR (some 43)), some (vR (some 1)), some (vR (some 38)), none, none, none]) rfl (by decide) (Nat.le_of_ble_eq_true rfl) ?_
  refine J_iconst (by decide) dX2_hangAll_0 ?_
  refine J_istore_n (loc' := [some (vR (some 43)), some (vR (some 1)), some (vR (some 38)), some (vI 0), none, none]) (by decide) rfl dX2_hangAll_1 ?_
  exact J_forget (loc' := [some (vR (some 43)), some (vR (some 1)), some (vR (some 38)), some (vI 0), none, none]) (And.intro (Or.inr rfl) (And.intro (Or.inr rfl) (And.intro (Or.inr rfl) (And.intro (Or.inr rfl) (And.intro (Or.inl rfl) (And.intro (Or.inl rfl) True.intro)))))) K
def Lp_X2_fight_2 (d b : Nat) (Q : Option AV → AH → Prop)  (y2 : Int) (h : AH) : Prop := J GX (d + 2) b mX2_fight Q 2 [some (vR (some 43)), some (vR (some 1)), some (vI y2), none] [] h
def Lp_X2_fight_12 (d b : Nat) (Q : Option AV → AH → Prop)  (y2 : Int) (y3 : Int) (h : AH) : Prop := J GX (d + 2) b mX2_fight Q 12 [some (vR (some 43)), some (vR (some 1)), some (vI y2), some (vI y3)] [] h
set_option maxRecDepth 20000 in
set_option maxHeartbeats 2000000 in
theorem l_X2_fight_2 {d b : Nat} {Q : Option AV → AH → Prop} {h : AH}  {y2 : Int}  (K : (gi h 1 2 ≤ y2 → WM GX (d + 1) 0 mX2_pair [vR (some 43), vI (gi h 1 2), vI (gi h 1 12)] h (fun r h1 => ∃ u1, r = some (vI u1) ∧ Q (some (vI u1)) h1)) ∧ (¬(gi h 1 2 ≤ y2) → Lp_X2_fight_12 d b Q y2 0 h)) : Lp_X2_fight_2 d b Q y2 h := by
  unfold Lp_X2_fight_2
  refine J_iload_n rfl dX2_fight_2 ?_
  refine J_aload_n rfl dX2_fight_3 ?_
  refine J_getI fl_RX2_30 rfl (Or.inl rfl) dX2_fight_4 ?_
  refine J_icmp_ge (tgt := 75) dX2_fight_7 (by decide) (fun c => ?_) (fun c => ?_)
  · replace K := K.1 c
    refine J_aload_n rfl dX2_fight_75 ?_
    refine J_aload_n rfl dX2_fight_76 ?_
    refine J_getI fl_RX2_30 rfl (Or.inl rfl) dX2_fight_77 ?_
    refine J_aload_n rfl dX2_fight_80 ?_
    refine J_getI fl_RX2_73 rfl (Or.inl rfl) dX2_fight_81 ?_
    refine J_b0 (J_callV (b1 := 0) (ci := 2) (vs := [vI (gi h 1 2), vI (gi h 1 12)]) (rest := []) (Or.inl rfl) ml_RX2_69 rfl (by decide) rfl rfl (Or.inl rfl) (Nat.le_of_ble_eq_true rfl) rfl dX2_fight_84 (WM_mono K (fun r h1 K => ?_)))
    obtain ⟨u1, rfl, K⟩ := K
    show J _ _ _ _ _ _ _ [vI u1] _
    exact J_ireturn rfl dX2_fight_87 K
  · replace K := K.2 c
    refine J_iconst (by decide) dX2_fight_10 ?_
    refine J_istore_n (loc' := [some (vR (some 43)), some (vR (some 1)), some (vI y2), some (vI 0)]) (by decide) rfl dX2_fight_11 ?_
    exact J_forget (loc' := [some (vR (some 43)), some (vR (some 1)), some (vI y2), some (vI 0)]) (And.intro (Or.inr rfl) (And.intro (Or.inr rfl) (And.intro (Or.inr rfl) (And.intro (Or.inr rfl) True.intro)))) K
set_option maxRecDepth 20000 in
set_option maxHeartbeats 2000000 in
theorem l_X2_fight_12 {d b : Nat} {Q : Option AV → AH → Prop} {h : AH}  {y2 : Int} {y3 : Int}  (K : (gi h 1 12 ≤ y3 → R32 (y2 + 1) ∧ Lp_X2_fight_2 d b Q (y2 + 1) h) ∧ (¬(gi h 1 12 ≤ y3) → R32 (y2 * 8) ∧ R32 ((y2 * 8) + y3) ∧ ((0 : Int) ≤ y2 ∧ (y2 : Int) < 8) ∧ (gi h 7 y2 = -1 ∧ gi h 8 y2 = -1 → (0 ≤ (y2 * 8) + y3 ∧ (y2 * 8) + y3 < 64) ∧ ∀ h3, h3 = si h 44 ((y2 * 8) + y3) (-1) → R32 (y3 + 1) ∧ Lp_X2_fight_12 d b Q y2 (y3 + 1) h3) ∧ (¬(gi h 7 y2 = -1 ∧ gi h 8 y2 = -1) → (0 ≤ y2 ∧ y2 < 8) ∧ (0 ≤ y3 ∧ y3 < 8) ∧ (gi h 3 y2 ≤ gi h 12 y3 → (0 ≤ (y2 * 8) + y3 ∧ (y2 * 8) + y3 < 64) ∧ ∀ h1, h1 = si h 44 ((y2 * 8) + y3) 0 → R32 (y3 + 1) ∧ Lp_X2_fight_12 d b Q y2 (y3 + 1) h1) ∧ (¬(gi h 3 y2 ≤ gi h 12 y3) → (0 ≤ (y2 * 8) + y3 ∧ (y2 * 8) + y3 < 64) ∧ ∀ h2, h2 = si h 44 ((y2 * 8) + y3) 1 → R32 (y3 + 1) ∧ Lp_X2_fight_12 d b Q y2 (y3 + 1) h2)))) : Lp_X2_fight_12 d b Q y2 y3 h := by
  unfold Lp_X2_fight_12
  refine J_iload_n rfl dX2_fight_12 ?_
  refine J_aload_n rfl dX2_fight_13 ?_
  refine J_getI fl_RX2_73 rfl (Or.inl rfl) dX2_fight_14 ?_
  refine J_icmp_ge (tgt := 69) dX2_fight_17 (by decide) (fun c => ?_) (fun c => ?_)
  · replace K := K.1 c
    refine J_iinc (loc' := [some (vR (some 43)), some (vR (some 1)), some (vI (y2 + 1)), some (vI y3)]) (by decide) rfl K.1 rfl dX2_fight_69 ?_
    replace K := K.2
    refine J_goto (tgt := 2) dX2_fight_72 (by decide) ?_
    exact J_forget (loc' := [some (vR (some 43)), some (vR (some 1)), some (vI (y2 + 1)), none]) (And.intro (Or.inr rfl) (And.intro (Or.inr rfl) (And.intro (Or.inr rfl) (And.intro (Or.inl rfl) True.intro)))) K
  · replace K := K.2 c
    refine J_aload_n rfl dX2_fight_20 ?_
    refine J_getS (r := 44) fl_RX2_9 rfl (Or.inl rfl) rfl dX2_fight_21 ?_
    refine J_iload_n rfl dX2_fight_24 ?_
    refine J_bipush (by decide) (by decide) dX2_fight_25 ?_
    refine J_imul K.1 dX2_fight_27 ?_
    replace K := K.2
    refine J_iload_n rfl dX2_fight_28 ?_
    refine J_iadd K.1 dX2_fight_29 ?_
    replace K := K.2
    refine J_aload_n rfl dX2_fight_30 ?_
    refine J_iload_n rfl dX2_fight_31 ?_
    refine J_b0 (J_callV (b1 := 0) (ci := 0) (vs := [vI y2]) (rest := [vI ((y2 * 8) + y3), vR (some 44)]) (Or.inr rfl) ml_RX2_58 rfl (by decide) rfl rfl (Or.inl rfl) (Nat.le_of_ble_eq_true rfl) rfl dX2_fight_32 (c_X0_isLost (by decide) K.1 ?_))
    replace K := K.2
    show J _ _ _ _ _ _ _ [vI (b2i (gi h 7 y2 = -1 ∧ gi h 8 y2 = -1)), vI ((y2 * 8) + y3), vR (some 44)] _
    refine J_if_eq (tgt := 42) dX2_fight_35 (by decide) (fun c => ?_) (fun c => ?_)
    · replace K := K.2 (b2i_0.mp c)
      refine J_aload_n rfl dX2_fight_42 ?_
      refine J_getS (r := 3) fl_RX2_76 rfl (Or.inl rfl) rfl dX2_fight_43 ?_
      refine J_iload_n rfl dX2_fight_46 ?_
      refine J_iaload (Or.inl rfl) K.1 dX2_fight_47 ?_
      replace K := K.2
      refine J_aload_n rfl dX2_fight_48 ?_
      refine J_getS (r := 12) fl_RX2_79 rfl (Or.inl rfl) rfl dX2_fight_49 ?_
      refine J_iload_n rfl dX2_fight_52 ?_
      refine J_iaload (Or.inl rfl) K.1 dX2_fight_53 ?_
      replace K := K.2
      refine J_icmp_le (tgt := 61) dX2_fight_54 (by decide) (fun c => ?_) (fun c => ?_)
      · replace K := K.1 c
        refine J_iconst (by decide) dX2_fight_61 ?_
        refine J_iastore (Or.inl rfl) K.1 dX2_fight_62 ?_
        replace K := K.2
        replace K := K _ rfl
        refine J_iinc (loc' := [some (vR (some 43)), some (vR (some 1)), some (vI y2), some (vI (y3 + 1))]) (by decide) rfl K.1 rfl dX2_fight_63 ?_
        replace K := K.2
        refine J_goto (tgt := 12) dX2_fight_66 (by decide) ?_
        exact J_forget (loc' := [some (vR (some 43)), some (vR (some 1)), some (vI y2), some (vI (y3 + 1))]) (And.intro (Or.inr rfl) (And.intro (Or.inr rfl) (And.intro (Or.inr rfl) (And.intro (Or.inr rfl) True.intro)))) K
      · replace K := K.2 c
        refine J_iconst (by decide) dX2_fight_57 ?_
        refine J_goto (tgt := 62) dX2_fight_58 (by decide) ?_
        refine J_iastore (Or.inl rfl) K.1 dX2_fight_62 ?_
        replace K := K.2
        replace K := K _ rfl
        refine J_iinc (loc' := [some (vR (some 43)), some (vR (some 1)), some (vI y2), some (vI (y3 + 1))]) (by decide) rfl K.1 rfl dX2_fight_63 ?_
        replace K := K.2
        refine J_goto (tgt := 12) dX2_fight_66 (by decide) ?_
        exact J_forget (loc' := [some (vR (some 43)), some (vR (some 1)), some (vI y2), some (vI (y3 + 1))]) (And.intro (Or.inr rfl) (And.intro (Or.inr rfl) (And.intro (Or.inr rfl) (And.intro (Or.inr rfl) True.intro)))) K
    · replace K := K.1 (b2i_n0.mp c)
      refine J_iconst (by decide) dX2_fight_38 ?_
      refine J_goto (tgt := 62) dX2_fight_39 (by decide) ?_
      refine J_iastore (Or.inl rfl) K.1 dX2_fight_62 ?_
      replace K := K.2
      replace K := K _ rfl
      refine J_iinc (loc' := [some (vR (some 43)), some (vR (some 1)), some (vI y2), some (vI (y3 + 1))]) (by decide) rfl K.1 rfl dX2_fight_63 ?_
      replace K := K.2
      refine J_goto (tgt := 12) dX2_fight_66 (by decide) ?_
      exact J_forget (loc' := [some (vR (some 43)), some (vR (some 1)), some (vI y2), some (vI (y3 + 1))]) (And.intro (Or.inr rfl) (And.intro (Or.inr rfl) (And.intro (Or.inr rfl) (And.intro (Or.inr rfl) True.intro)))) K
set_option maxRecDepth 20000 in
set_option maxHeartbeats 2000000 in
theorem w_X2_fight {d b : Nat} {Q : Option AV → AH → Prop} {h : AH}   (K : Lp_X2_fight_2 d b Q 0 h) : WM GX (d + 2) b mX2_fight [vR (some 43), vR (some 1)] h Q := by
  refine WM_introE (loc' := [some (vR (some 43)), some (vR (some 1)), none, none]) rfl (by decide) (Nat.le_of_ble_eq_true rfl) ?_
  refine J_iconst (by decide) dX2_fight_0 ?_
  refine J_istore_n (loc' := [some (vR (some 43)), some (vR (some 1)), some (vI 0), none]) (by decide) rfl dX2_fight_1 ?_
  exact J_forget (loc' := [some (vR (some 43)), some (vR (some 1)), some (vI 0), none]) (And.intro (Or.inr rfl) (And.intro (Or.inr rfl) (And.intro (Or.inr rfl) (And.intro (Or.inl rfl) True.intro)))) K
def Lp_X2_pair_7 (d b : Nat) (Q : Option AV → AH → Prop)  (y1 : Int) (y2 : Int) (y3 : Int) (y4 : Int) (h : AH) : Prop := J GX (d + 1) b mX2_pair Q 7 [some (vR (some 43)), some (vI y1), some (vI y2), some (vI y3), some (vI y4), none, none, none] [] h
def Lp_X2_pair_38 (d b : Nat) (Q : Option AV → AH → Prop)  (y1 : Int) (y2 : Int) (y3 : Int) (y4 : Int) (h : AH) : Prop := J GX (d + 1) b mX2_pair Q 38 [some (vR (some 43)), some (vI y1), some (vI y2), some (vI y3), some (vI y4), none, none, none] [] h
def Lp_X2_pair_149 (d b : Nat) (Q : Option AV → AH → Prop)  (y1 : Int) (y2 : Int) (y4 : Int) (y5 : Int) (h : AH) : Prop := J GX (d + 1) b mX2_pair Q 149 [some (vR (some 43)), some (vI y1), some (vI y2), none, some (vI y4), some (vI y5), none, none] [] h
def Lp_X2_pair_46 (d b : Nat) (Q : Option AV → AH → Prop)  (y1 : Int) (y2 : Int) (y3 : Int) (y4 : Int) (y5 : Int) (h : AH) : Prop := J GX (d + 1) b mX2_pair Q 46 [some (vR (some 43)), some (vI y1), some (vI y2), some (vI y3), some (vI y4), some (vI y5), none, none] [] h
def Lp_X2_pair_183 (d b : Nat) (Q : Option AV → AH → Prop)  (y1 : Int) (y2 : Int) (y4 : Int) (y5 : Int) (y6 : Int) (y7 : Int) (h : AH) : Prop := J GX (d + 1) b mX2_pair Q 183 [some (vR (some 43)), some (vI y1), some (vI y2), none, some (vI y4), some (vI y5), some (vI y6), some (vI y7)] [] h
def Lp_X2_pair_86 (d b : Nat) (Q : Option AV → AH → Prop)  (y1 : Int) (y2 : Int) (y3 : Int) (y4 : Int) (y5 : Int) (y6 : Int) (y7 : Int) (h : AH) : Prop := J GX (d + 1) b mX2_pair Q 86 [some (vR (some 43)), some (vI y1), some (vI y2), some (vI y3), some (vI y4), some (vI y5), some (vI y6), some (vI y7)] [] h
set_option maxRecDepth 20000 in
set_option maxHeartbeats 2000000 in
theorem l_X2_pair_7 {d b : Nat} {Q : Option AV → AH → Prop} {h : AH}  {y1 : Int} {y2 : Int} {y3 : Int} {y4 : Int}  (K : (y3 ≤ y4 → R32 (y1 - 1) ∧ Lp_X2_pair_38 d b Q y1 y2 y3 (y1 - 1) h) ∧ (¬(y3 ≤ y4) → R32 (y1 * 256) ∧ R32 ((y1 * 256) + y4) ∧ (0 ≤ (y1 * 256) + y4 ∧ (y1 * 256) + y4 < 2304) ∧ ∀ h1, h1 = si h 45 ((y1 * 256) + y4) 0 → R32 (y4 + 1) ∧ Lp_X2_pair_7 d b Q y1 y2 y3 (y4 + 1) h1)) : Lp_X2_pair_7 d b Q y1 y2 y3 y4 h := by
  unfold Lp_X2_pair_7
  refine J_iload rfl dX2_pair_7 ?_
  refine J_iload_n rfl dX2_pair_9 ?_
  refine J_icmp_ge (tgt := 33) dX2_pair_10 (by decide) (fun c => ?_) (fun c => ?_)
  · replace K := K.1 c
    refine J_iload_n rfl dX2_pair_33 ?_
    refine J_iconst (by decide) dX2_pair_34 ?_
    refine J_isub K.1 dX2_pair_35 ?_
    replace K := K.2
    refine J_istore (loc' := [some (vR (some 43)), some (vI y1), some (vI y2), some (vI y3), some (vI (y1 - 1)), none, none, none]) (by decide) rfl dX2_pair_36 ?_
    exact J_forget (loc' := [some (vR (some 43)), some (vI y1), some (vI y2), some (vI y3), some (vI (y1 - 1)), none, none, none]) (And.intro (Or.inr rfl) (And.intro (Or.inr rfl) (And.intro (Or.inr rfl) (And.intro (Or.inr rfl) (And.intro (Or.inr rfl) (And.intro (Or.inl rfl) (And.intro (Or.inl rfl) (And.intro (Or.inl rfl) True.intro)))))))) K
  · replace K := K.2 c
    refine J_aload_n rfl dX2_pair_13 ?_
    refine J_getS (r := 45) fl_RX2_15 rfl (Or.inl rfl) rfl dX2_pair_14 ?_
    refine J_iload_n rfl dX2_pair_17 ?_
    refine J_sipush (by decide) (by decide) dX2_pair_18 ?_
    refine J_imul K.1 dX2_pair_21 ?_
    replace K := K.2
    refine J_iload rfl dX2_pair_22 ?_
    refine J_iadd K.1 dX2_pair_24 ?_
    replace K := K.2
    refine J_iconst (by decide) dX2_pair_25 ?_
    refine J_iastore (Or.inl rfl) K.1 dX2_pair_26 ?_
    replace K := K.2
    replace K := K _ rfl
    refine J_iinc (loc' := [some (vR (some 43)), some (vI y1), some (vI y2), some (vI y3), some (vI (y4 + 1)), none, none, none]) (by decide) rfl K.1 rfl dX2_pair_27 ?_
    replace K := K.2
    refine J_goto (tgt := 7) dX2_pair_30 (by decide) ?_
    exact J_forget (loc' := [some (vR (some 43)), some (vI y1), some (vI y2), some (vI y3), some (vI (y4 + 1)), none, none, none]) (And.intro (Or.inr rfl) (And.intro (Or.inr rfl) (And.intro (Or.inr rfl) (And.intro (Or.inr rfl) (And.intro (Or.inr rfl) (And.intro (Or.inl rfl) (And.intro (Or.inl rfl) (And.intro (Or.inl rfl) True.intro)))))))) K
set_option maxRecDepth 20000 in
set_option maxHeartbeats 2000000 in
theorem l_X2_pair_38 {d b : Nat} {Q : Option AV → AH → Prop} {h : AH}  {y1 : Int} {y2 : Int} {y3 : Int} {y4 : Int}  (K : (y4 < 0 → Lp_X2_pair_149 d b Q y1 y2 0 0 h) ∧ (¬(y4 < 0) → Lp_X2_pair_46 d b Q y1 y2 y3 y4 0 h)) : Lp_X2_pair_38 d b Q y1 y2 y3 y4 h := by
  unfold Lp_X2_pair_38
  refine J_iload rfl dX2_pair_38 ?_
  refine J_if_lt (tgt := 143) dX2_pair_40 (by decide) (fun c => ?_) (fun c => ?_)
  · replace K := K.1 c
    refine J_iconst (by decide) dX2_pair_143 ?_
    refine J_istore (loc' := [some (vR (some 43)), some (vI y1), some (vI y2), some (vI y3), some (vI 0), none, none, none]) (by decide) rfl dX2_pair_144 ?_
    refine J_iconst (by decide) dX2_pair_146 ?_
    refine J_istore (loc' := [some (vR (some 43)), some (vI y1), some (vI y2), some (vI y3), some (vI 0), some (vI 0), none, none]) (by decide) rfl dX2_pair_147 ?_
    exact J_forget (loc' := [some (vR (some 43)), some (vI y1), some (vI y2), none, some (vI 0), some (vI 0), none, none]) (And.intro (Or.inr rfl) (And.intro (Or.inr rfl) (And.intro (Or.inr rfl) (And.intro (Or.inl rfl) (And.intro (Or.inr rfl) (And.intro (Or.inr rfl) (And.intro (Or.inl rfl) (And.intro (Or.inl rfl) True.intro)))))))) K
  · replace K := K.2 c
    refine J_iconst (by decide) dX2_pair_43 ?_
    refine J_istore (loc' := [some (vR (some 43)), some (vI y1), some (vI y2), some (vI y3), some (vI y4), some (vI 0), none, none]) (by decide) rfl dX2_pair_44 ?_
    exact J_forget (loc' := [some (vR (some 43)), some (vI y1), some (vI y2), some (vI y3), some (vI y4), some (vI 0), none, none]) (And.intro (Or.inr rfl) (And.intro (Or.inr rfl) (And.intro (Or.inr rfl) (And.intro (Or.inr rfl) (And.intro (Or.inr rfl) (And.intro (Or.inr rfl) (And.intro (Or.inl rfl) (And.intro (Or.inl rfl) True.intro)))))))) K
set_option maxRecDepth 20000 in
set_option maxHeartbeats 2000000 in
theorem l_X2_pair_149 {d b : Nat} {Q : Option AV → AH → Prop} {h : AH}  {y1 : Int} {y2 : Int} {y4 : Int} {y5 : Int}  (K : (y1 ≤ y5 → Q (some (vI (gi h 45 0))) h) ∧ (¬(y1 ≤ y5) → (0 ≤ y5 ∧ y5 < 8) ∧ ∀ h1, h1 = si h 49 y5 100 → R32 (y5 * 256) ∧ R32 ((y5 * 256) + y4) ∧ (0 ≤ (y5 * 256) + y4 ∧ (y5 * 256) + y4 < 2304) ∧ Lp_X2_pair_183 d b Q y1 y2 y4 y5 (gi h 45 ((y5 * 256) + y4)) 0 h1)) : Lp_X2_pair_149 d b Q y1 y2 y4 y5 h := by
  unfold Lp_X2_pair_149
  refine J_iload rfl dX2_pair_149 ?_
  refine J_iload_n rfl dX2_pair_151 ?_
  refine J_icmp_ge (tgt := 263) dX2_pair_152 (by decide) (fun c => ?_) (fun c => ?_)
  · replace K := K.1 c
    refine J_aload_n rfl dX2_pair_263 ?_
    refine J_getS (r := 45) fl_RX2_15 rfl (Or.inl rfl) rfl dX2_pair_264 ?_
    refine J_iconst (by decide) dX2_pair_267 ?_
    refine J_iaload (Or.inl rfl) (by decide) dX2_pair_268 ?_
    exact J_ireturn rfl dX2_pair_269 K
  · replace K := K.2 c
    refine J_aload_n rfl dX2_pair_155 ?_
    refine J_getS (r := 49) fl_RX2_27 rfl (Or.inl rfl) rfl dX2_pair_156 ?_
    refine J_iload rfl dX2_pair_159 ?_
    refine J_bipush (by decide) (by decide) dX2_pair_161 ?_
    refine J_iastore (Or.inl rfl) K.1 dX2_pair_163 ?_
    replace K := K.2
    replace K := K _ rfl
    refine J_aload_n rfl dX2_pair_164 ?_
    refine J_getS (r := 45) fl_RX2_15 rfl (Or.inl rfl) rfl dX2_pair_165 ?_
    refine J_iload rfl dX2_pair_168 ?_
    refine J_sipush (by decide) (by decide) dX2_pair_170 ?_
    refine J_imul K.1 dX2_pair_173 ?_
    replace K := K.2
    refine J_iload rfl dX2_pair_174 ?_
    refine J_iadd K.1 dX2_pair_176 ?_
    replace K := K.2
    refine J_ialoade (Or.inl rfl) K.1 (gi_no (by decide)) dX2_pair_177 ?_
    replace K := K.2
    refine J_istore (loc' := [some (vR (some 43)), some (vI y1), some (vI y2), none, some (vI y4), some (vI y5), some (vI (gi h 45 ((y5 * 256) + y4))), none]) (by decide) rfl dX2_pair_178 ?_
    refine J_iconst (by decide) dX2_pair_180 ?_
    refine J_istore (loc' := [some (vR (some 43)), some (vI y1), some (vI y2), none, some (vI y4), some (vI y5), some (vI (gi h 45 ((y5 * 256) + y4))), some (vI 0)]) (by decide) rfl dX2_pair_181 ?_
    exact J_forget (loc' := [some (vR (some 43)), some (vI y1), some (vI y2), none, some (vI y4), some (vI y5), some (vI (gi h 45 ((y5 * 256) + y4))), some (vI 0)]) (And.intro (Or.inr rfl) (And.intro (Or.inr rfl) (And.intro (Or.inr rfl) (And.intro (Or.inl rfl) (And.intro (Or.inr rfl) (And.intro (Or.inr rfl) (And.intro (Or.inr rfl) (And.intro (Or.inr rfl) True.intro)))))))) K
set_option maxRecDepth 20000 in
set_option maxHeartbeats 2000000 in
theorem l_X2_pair_46 {d b : Nat} {Q : Option AV → AH → Prop} {h : AH}  {y1 : Int} {y2 : Int} {y3 : Int} {y4 : Int} {y5 : Int}  (K : (y3 ≤ y5 → R32 (y4 + (-1)) ∧ Lp_X2_pair_38 d b Q y1 y2 y3 (y4 + (-1)) h) ∧ (¬(y3 ≤ y5) → ((0 : Int) ≤ y5 ∧ (y5 : Int) < 33554432) ∧ (pcI y5 ≤ y4 → R32 (y4 + 1) ∧ R32 ((y4 + 1) * 256) ∧ R32 (((y4 + 1) * 256) + y5) ∧ (0 ≤ ((y4 + 1) * 256) + y5 ∧ ((y4 + 1) * 256) + y5 < 2304) ∧ Lp_X2_pair_86 d b Q y1 y2 y3 y4 y5 (gi h 45 (((y4 + 1) * 256) + y5)) 0 h) ∧ (¬(pcI y5 ≤ y4) → R32 (y5 + 1) ∧ Lp_X2_pair_46 d b Q y1 y2 y3 y4 (y5 + 1) h))) : Lp_X2_pair_46 d b Q y1 y2 y3 y4 y5 h := by
  unfold Lp_X2_pair_46
  refine J_iload rfl dX2_pair_46 ?_
  refine J_iload_n rfl dX2_pair_48 ?_
  refine J_icmp_ge (tgt := 137) dX2_pair_49 (by decide) (fun c => ?_) (fun c => ?_)
  · replace K := K.1 c
    refine J_iinc (loc' := [some (vR (some 43)), some (vI y1), some (vI y2), some (vI y3), some (vI (y4 + (-1))), some (vI y5), none, none]) (by decide) rfl K.1 rfl dX2_pair_137 ?_
    replace K := K.2
    refine J_goto (tgt := 38) dX2_pair_140 (by decide) ?_
    exact J_forget (loc' := [some (vR (some 43)), some (vI y1), some (vI y2), some (vI y3), some (vI (y4 + (-1))), none, none, none]) (And.intro (Or.inr rfl) (And.intro (Or.inr rfl) (And.intro (Or.inr rfl) (And.intro (Or.inr rfl) (And.intro (Or.inr rfl) (And.intro (Or.inl rfl) (And.intro (Or.inl rfl) (And.intro (Or.inl rfl) True.intro)))))))) K
  · replace K := K.2 c
    refine J_iload rfl dX2_pair_52 ?_
    refine J_b0 (J_callS (b1 := 0) (vs := [vI y5]) (rest := []) (Or.inl rfl) ml_RX2_49 rfl (by decide) (Nat.le_of_ble_eq_true rfl) rfl dX2_pair_54 (c_J6_bitCount  K.1 ?_))
    replace K := K.2
    show J _ _ _ _ _ _ _ [vI (pcI y5)] _
    refine J_iload rfl dX2_pair_57 ?_
    refine J_icmp_le (tgt := 65) dX2_pair_59 (by decide) (fun c => ?_) (fun c => ?_)
    · replace K := K.1 c
      refine J_aload_n rfl dX2_pair_65 ?_
      refine J_getS (r := 45) fl_RX2_15 rfl (Or.inl rfl) rfl dX2_pair_66 ?_
      refine J_iload rfl dX2_pair_69 ?_
      refine J_iconst (by decide) dX2_pair_71 ?_
      refine J_iadd K.1 dX2_pair_72 ?_
      replace K := K.2
      refine J_sipush (by decide) (by decide) dX2_pair_73 ?_
      refine J_imul K.1 dX2_pair_76 ?_
      replace K := K.2
      refine J_iload rfl dX2_pair_77 ?_
      refine J_iadd K.1 dX2_pair_79 ?_
      replace K := K.2
      refine J_iaload (Or.inl rfl) K.1 dX2_pair_80 ?_
      replace K := K.2
      refine J_istore (loc' := [some (vR (some 43)), some (vI y1), some (vI y2), some (vI y3), some (vI y4), some (vI y5), some (vI (gi h 45 (((y4 + 1) * 256) + y5))), none]) (by decide) rfl dX2_pair_81 ?_
      refine J_iconst (by decide) dX2_pair_83 ?_
      refine J_istore (loc' := [some (vR (some 43)), some (vI y1), some (vI y2), some (vI y3), some (vI y4), some (vI y5), some (vI (gi h 45 (((y4 + 1) * 256) + y5))), some (vI 0)]) (by decide) rfl dX2_pair_84 ?_
      exact J_forget (loc' := [some (vR (some 43)), some (vI y1), some (vI y2), some (vI y3), some (vI y4), some (vI y5), some (vI (gi h 45 (((y4 + 1) * 256) + y5))), some (vI 0)]) (And.intro (Or.inr rfl) (And.intro (Or.inr rfl) (And.intro (Or.inr rfl) (And.intro (Or.inr rfl) (And.intro (Or.inr rfl) (And.intro (Or.inr rfl) (And.intro (Or.inr rfl) (And.intro (Or.inr rfl) True.intro)))))))) K
    · replace K := K.2 c
      refine J_goto (tgt := 131) dX2_pair_62 (by decide) ?_
      refine J_iinc (loc' := [some (vR (some 43)), some (vI y1), some (vI y2), some (vI y3), some (vI y4), some (vI (y5 + 1)), none, none]) (by decide) rfl K.1 rfl dX2_pair_131 ?_
      replace K := K.2
      refine J_goto (tgt := 46) dX2_pair_134 (by decide) ?_
      exact J_forget (loc' := [some (vR (some 43)), some (vI y1), some (vI y2), some (vI y3), some (vI y4), some (vI (y5 + 1)), none, none]) (And.intro (Or.inr rfl) (And.intro (Or.inr rfl) (And.intro (Or.inr rfl) (And.intro (Or.inr rfl) (And.intro (Or.inr rfl) (And.intro (Or.inr rfl) (And.intro (Or.inl rfl) (And.intro (Or.inl rfl) True.intro)))))))) K
set_option maxRecDepth 20000 in
set_option maxHeartbeats 2000000 in
theorem l_X2_pair_183 {d b : Nat} {Q : Option AV → AH → Prop} {h : AH}  {y1 : Int} {y2 : Int} {y4 : Int} {y5 : Int} {y6 : Int} {y7 : Int}  (K : (y2 ≤ y7 → (0 ≤ y5 ∧ y5 < 8) ∧ (gi h 49 y5 = 100 → R32 (y5 + 1) ∧ Lp_X2_pair_149 d b Q y1 y2 y4 (y5 + 1) h) ∧ (¬(gi h 49 y5 = 100) → (0 ≤ y5 ∧ y5 < 8) ∧ R32 (y5 + 1) ∧ Lp_X2_pair_149 d b Q y1 y2 (zor y4 (zshl 1 (gi h 49 y5))) (y5 + 1) h)) ∧ (¬(y2 ≤ y7) → (0 ≤ y5 ∧ y5 < 8) ∧ (gi h 49 y5 = 100 → WM GX d 0 mX2_worthOf [vR (some 43), vI y5, vI y7, vI y4] h (fun r h1 => ∃ u1, r = some (vI u1) ∧ (u1 = y6 → (0 ≤ y5 ∧ y5 < 8) ∧ ∀ h2, h2 = si h1 49 y5 y7 → R32 (y7 + 1) ∧ Lp_X2_pair_183 d b Q y1 y2 y4 y5 y6 (y7 + 1) h2) ∧ (¬(u1 = y6) → R32 (y7 + 1) ∧ Lp_X2_pair_183 d b Q y1 y2 y4 y5 y6 (y7 + 1) h1))) ∧ (¬(gi h 49 y5 = 100) → (0 ≤ y5 ∧ y5 < 8) ∧ (gi h 49 y5 = 100 → R32 (y5 + 1) ∧ Lp_X2_pair_149 d b Q y1 y2 y4 (y5 + 1) h) ∧ (¬(gi h 49 y5 = 100) → (0 ≤ y5 ∧ y5 < 8) ∧ R32 (y5 + 1) ∧ Lp_X2_pair_149 d b Q y1 y2 (zor y4 (zshl 1 (gi h 49 y5))) (y5 + 1) h)))) : Lp_X2_pair_183 d b Q y1 y2 y4 y5 y6 y7 h := by
  unfold Lp_X2_pair_183
  refine J_iload rfl dX2_pair_183 ?_
  refine J_iload_n rfl dX2_pair_185 ?_
  refine J_icmp_ge (tgt := 231) dX2_pair_186 (by decide) (fun c => ?_) (fun c => ?_)
  · replace K := K.1 c
    refine J_aload_n rfl dX2_pair_231 ?_
    refine J_getS (r := 49) fl_RX2_27 rfl (Or.inl rfl) rfl dX2_pair_232 ?_
    refine J_iload rfl dX2_pair_235 ?_
    refine J_iaload (Or.inl rfl) K.1 dX2_pair_237 ?_
    replace K := K.2
    refine J_bipush (by decide) (by decide) dX2_pair_238 ?_
    refine J_icmp_eq (tgt := 257) dX2_pair_240 (by decide) (fun c => ?_) (fun c => ?_)
    · replace K := K.1 c
      refine J_iinc (loc' := [some (vR (some 43)), some (vI y1), some (vI y2), none, some (vI y4), some (vI (y5 + 1)), some (vI y6), some (vI y7)]) (by decide) rfl K.1 rfl dX2_pair_257 ?_
      replace K := K.2
      refine J_goto (tgt := 149) dX2_pair_260 (by decide) ?_
      exact J_forget (loc' := [some (vR (some 43)), some (vI y1), some (vI y2), none, some (vI y4), some (vI (y5 + 1)), none, none]) (And.intro (Or.inr rfl) (And.intro (Or.inr rfl) (And.intro (Or.inr rfl) (And.intro (Or.inl rfl) (And.intro (Or.inr rfl) (And.intro (Or.inr rfl) (And.intro (Or.inl rfl) (And.intro (Or.inl rfl) True.intro)))))))) K
    · replace K := K.2 c
      refine J_iload rfl dX2_pair_243 ?_
      refine J_iconst (by decide) dX2_pair_245 ?_
      refine J_aload_n rfl dX2_pair_246 ?_
      refine J_getS (r := 49) fl_RX2_27 rfl (Or.inl rfl) rfl dX2_pair_247 ?_
      refine J_iload rfl dX2_pair_250 ?_
      refine J_iaload (Or.inl rfl) K.1 dX2_pair_252 ?_
      replace K := K.2
      refine J_ishl dX2_pair_253 ?_
      refine J_ior dX2_pair_254 ?_
      refine J_istore (loc' := [some (vR (some 43)), some (vI y1), some (vI y2), none, some (vI (zor y4 (zshl 1 (gi h 49 y5)))), some (vI y5), some (vI y6), some (vI y7)]) (by decide) rfl dX2_pair_255 ?_
      refine J_iinc (loc' := [some (vR (some 43)), some (vI y1), some (vI y2), none, some (vI (zor y4 (zshl 1 (gi h 49 y5)))), some (vI (y5 + 1)), some (vI y6), some (vI y7)]) (by decide) rfl K.1 rfl dX2_pair_257 ?_
      replace K := K.2
      refine J_goto (tgt := 149) dX2_pair_260 (by decide) ?_
      exact J_forget (loc' := [some (vR (some 43)), some (vI y1), some (vI y2), none, some (vI (zor y4 (zshl 1 (gi h 49 y5)))), some (vI (y5 + 1)), none, none]) (And.intro (Or.inr rfl) (And.intro (Or.inr rfl) (And.intro (Or.inr rfl) (And.intro (Or.inl rfl) (And.intro (Or.inr rfl) (And.intro (Or.inr rfl) (And.intro (Or.inl rfl) (And.intro (Or.inl rfl) True.intro)))))))) K
  · replace K := K.2 c
    refine J_aload_n rfl dX2_pair_189 ?_
    refine J_getS (r := 49) fl_RX2_27 rfl (Or.inl rfl) rfl dX2_pair_190 ?_
    refine J_iload rfl dX2_pair_193 ?_
    refine J_iaload (Or.inl rfl) K.1 dX2_pair_195 ?_
    replace K := K.2
    refine J_bipush (by decide) (by decide) dX2_pair_196 ?_
    refine J_icmp_ne (tgt := 231) dX2_pair_198 (by decide) (fun c => ?_) (fun c => ?_)
    · replace K := K.2 c
      refine J_aload_n rfl dX2_pair_231 ?_
      refine J_getS (r := 49) fl_RX2_27 rfl (Or.inl rfl) rfl dX2_pair_232 ?_
      refine J_iload rfl dX2_pair_235 ?_
      refine J_iaload (Or.inl rfl) K.1 dX2_pair_237 ?_
      replace K := K.2
      refine J_bipush (by decide) (by decide) dX2_pair_238 ?_
      refine J_icmp_eq (tgt := 257) dX2_pair_240 (by decide) (fun c => ?_) (fun c => ?_)
      · replace K := K.1 c
        refine J_iinc (loc' := [some (vR (some 43)), some (vI y1), some (vI y2), none, some (vI y4), some (vI (y5 + 1)), some (vI y6), some (vI y7)]) (by decide) rfl K.1 rfl dX2_pair_257 ?_
        replace K := K.2
        refine J_goto (tgt := 149) dX2_pair_260 (by decide) ?_
        exact J_forget (loc' := [some (vR (some 43)), some (vI y1), some (vI y2), none, some (vI y4), some (vI (y5 + 1)), none, none]) (And.intro (Or.inr rfl) (And.intro (Or.inr rfl) (And.intro (Or.inr rfl) (And.intro (Or.inl rfl) (And.intro (Or.inr rfl) (And.intro (Or.inr rfl) (And.intro (Or.inl rfl) (And.intro (Or.inl rfl) True.intro)))))))) K
      · replace K := K.2 c
        refine J_iload rfl dX2_pair_243 ?_
        refine J_iconst (by decide) dX2_pair_245 ?_
        refine J_aload_n rfl dX2_pair_246 ?_
        refine J_getS (r := 49) fl_RX2_27 rfl (Or.inl rfl) rfl dX2_pair_247 ?_
        refine J_iload rfl dX2_pair_250 ?_
        refine J_iaload (Or.inl rfl) K.1 dX2_pair_252 ?_
        replace K := K.2
        refine J_ishl dX2_pair_253 ?_
        refine J_ior dX2_pair_254 ?_
        refine J_istore (loc' := [some (vR (some 43)), some (vI y1), some (vI y2), none, some (vI (zor y4 (zshl 1 (gi h 49 y5)))), some (vI y5), some (vI y6), some (vI y7)]) (by decide) rfl dX2_pair_255 ?_
        refine J_iinc (loc' := [some (vR (some 43)), some (vI y1), some (vI y2), none, some (vI (zor y4 (zshl 1 (gi h 49 y5)))), some (vI (y5 + 1)), some (vI y6), some (vI y7)]) (by decide) rfl K.1 rfl dX2_pair_257 ?_
        replace K := K.2
        refine J_goto (tgt := 149) dX2_pair_260 (by decide) ?_
        exact J_forget (loc' := [some (vR (some 43)), some (vI y1), some (vI y2), none, some (vI (zor y4 (zshl 1 (gi h 49 y5)))), some (vI (y5 + 1)), none, none]) (And.intro (Or.inr rfl) (And.intro (Or.inr rfl) (And.intro (Or.inr rfl) (And.intro (Or.inl rfl) (And.intro (Or.inr rfl) (And.intro (Or.inr rfl) (And.intro (Or.inl rfl) (And.intro (Or.inl rfl) True.intro)))))))) K
    · replace K := K.1 c
      refine J_aload_n rfl dX2_pair_201 ?_
      refine J_iload rfl dX2_pair_202 ?_
      refine J_iload rfl dX2_pair_204 ?_
      refine J_iload rfl dX2_pair_206 ?_
      refine J_b0 (J_callV (b1 := 0) (ci := 2) (vs := [vI y5, vI y7, vI y4]) (rest := []) (Or.inl rfl) ml_RX2_82 rfl (by decide) rfl rfl (Or.inl rfl) (Nat.le_of_ble_eq_true rfl) rfl dX2_pair_208 (WM_mono K (fun r h1 K => ?_)))
      obtain ⟨u1, rfl, K⟩ := K
      show J _ _ _ _ _ _ _ [vI u1] _
      refine J_iload rfl dX2_pair_211 ?_
      refine J_icmp_ne (tgt := 225) dX2_pair_213 (by decide) (fun c => ?_) (fun c => ?_)
      · replace K := K.2 c
        refine J_iinc (loc' := [some (vR (some 43)), some (vI y1), some (vI y2), none, some (vI y4), some (vI y5), some (vI y6), some (vI (y7 + 1))]) (by decide) rfl K.1 rfl dX2_pair_225 ?_
        replace K := K.2
        refine J_goto (tgt := 183) dX2_pair_228 (by decide) ?_
        exact J_forget (loc' := [some (vR (some 43)), some (vI y1), some (vI y2), none, some (vI y4), some (vI y5), some (vI y6), some (vI (y7 + 1))]) (And.intro (Or.inr rfl) (And.intro (Or.inr rfl) (And.intro (Or.inr rfl) (And.intro (Or.inl rfl) (And.intro (Or.inr rfl) (And.intro (Or.inr rfl) (And.intro (Or.inr rfl) (And.intro (Or.inr rfl) True.intro)))))))) K
      · replace K := K.1 c
        refine J_aload_n rfl dX2_pair_216 ?_
        refine J_getS (r := 49) fl_RX2_27 rfl (Or.inl rfl) rfl dX2_pair_217 ?_
        refine J_iload rfl dX2_pair_220 ?_
        refine J_iload rfl dX2_pair_222 ?_
        refine J_iastore (Or.inl rfl) K.1 dX2_pair_224 ?_
        replace K := K.2
        replace K := K _ rfl
        refine J_iinc (loc' := [some (vR (some 43)), some (vI y1), some (vI y2), none, some (vI y4), some (vI y5), some (vI y6), some (vI (y7 + 1))]) (by decide) rfl K.1 rfl dX2_pair_225 ?_
        replace K := K.2
        refine J_goto (tgt := 183) dX2_pair_228 (by decide) ?_
        exact J_forget (loc' := [some (vR (some 43)), some (vI y1), some (vI y2), none, some (vI y4), some (vI y5), some (vI y6), some (vI (y7 + 1))]) (And.intro (Or.inr rfl) (And.intro (Or.inr rfl) (And.intro (Or.inr rfl) (And.intro (Or.inl rfl) (And.intro (Or.inr rfl) (And.intro (Or.inr rfl) (And.intro (Or.inr rfl) (And.intro (Or.inr rfl) True.intro)))))))) K
set_option maxRecDepth 20000 in
set_option maxHeartbeats 2000000 in
theorem l_X2_pair_86 {d b : Nat} {Q : Option AV → AH → Prop} {h : AH}  {y1 : Int} {y2 : Int} {y3 : Int} {y4 : Int} {y5 : Int} {y6 : Int} {y7 : Int}  (K : (y2 ≤ y7 → R32 (y4 * 256) ∧ R32 ((y4 * 256) + y5) ∧ (0 ≤ (y4 * 256) + y5 ∧ (y4 * 256) + y5 < 2304) ∧ ∀ h1, h1 = si h 45 ((y4 * 256) + y5) y6 → R32 (y5 + 1) ∧ Lp_X2_pair_46 d b Q y1 y2 y3 y4 (y5 + 1) h1) ∧ (¬(y2 ≤ y7) → WM GX d 0 mX2_worthOf [vR (some 43), vI y4, vI y7, vI y5] h (fun r h2 => ∃ u2, r = some (vI u2) ∧ R32 (y7 + 1) ∧ Lp_X2_pair_86 d b Q y1 y2 y3 y4 y5 (max y6 u2) (y7 + 1) h2))) : Lp_X2_pair_86 d b Q y1 y2 y3 y4 y5 y6 y7 h := by
  unfold Lp_X2_pair_86
  refine J_iload rfl dX2_pair_86 ?_
  refine J_iload_n rfl dX2_pair_88 ?_
  refine J_icmp_ge (tgt := 115) dX2_pair_89 (by decide) (fun c => ?_) (fun c => ?_)
  · replace K := K.1 c
    refine J_aload_n rfl dX2_pair_115 ?_
    refine J_getS (r := 45) fl_RX2_15 rfl (Or.inl rfl) rfl dX2_pair_116 ?_
    refine J_iload rfl dX2_pair_119 ?_
    refine J_sipush (by decide) (by decide) dX2_pair_121 ?_
    refine J_imul K.1 dX2_pair_124 ?_
    replace K := K.2
    refine J_iload rfl dX2_pair_125 ?_
    refine J_iadd K.1 dX2_pair_127 ?_
    replace K := K.2
    refine J_iload rfl dX2_pair_128 ?_
    refine J_iastore (Or.inl rfl) K.1 dX2_pair_130 ?_
    replace K := K.2
    replace K := K _ rfl
    refine J_iinc (loc' := [some (vR (some 43)), some (vI y1), some (vI y2), some (vI y3), some (vI y4), some (vI (y5 + 1)), some (vI y6), some (vI y7)]) (by decide) rfl K.1 rfl dX2_pair_131 ?_
    replace K := K.2
    refine J_goto (tgt := 46) dX2_pair_134 (by decide) ?_
    exact J_forget (loc' := [some (vR (some 43)), some (vI y1), some (vI y2), some (vI y3), some (vI y4), some (vI (y5 + 1)), none, none]) (And.intro (Or.inr rfl) (And.intro (Or.inr rfl) (And.intro (Or.inr rfl) (And.intro (Or.inr rfl) (And.intro (Or.inr rfl) (And.intro (Or.inr rfl) (And.intro (Or.inl rfl) (And.intro (Or.inl rfl) True.intro)))))))) K
  · replace K := K.2 c
    refine J_iload rfl dX2_pair_92 ?_
    refine J_aload_n rfl dX2_pair_94 ?_
    refine J_iload rfl dX2_pair_95 ?_
    refine J_iload rfl dX2_pair_97 ?_
    refine J_iload rfl dX2_pair_99 ?_
    refine J_b0 (J_callV (b1 := 0) (ci := 2) (vs := [vI y4, vI y7, vI y5]) (rest := [vI y6]) (Or.inl rfl) ml_RX2_82 rfl (by decide) rfl rfl (Or.inl rfl) (Nat.le_of_ble_eq_true rfl) rfl dX2_pair_101 (WM_mono K (fun r h2 K => ?_)))
    obtain ⟨u2, rfl, K⟩ := K
    show J _ _ _ _ _ _ _ [vI u2, vI y6] _
    refine J_mmax ml_RX2_86 (Nat.le_of_ble_eq_true rfl) dX2_pair_104 ?_
    refine J_istore (loc' := [some (vR (some 43)), some (vI y1), some (vI y2), some (vI y3), some (vI y4), some (vI y5), some (vI (max y6 u2)), some (vI y7)]) (by decide) rfl dX2_pair_107 ?_
    refine J_iinc (loc' := [some (vR (some 43)), some (vI y1), some (vI y2), some (vI y3), some (vI y4), some (vI y5), some (vI (max y6 u2)), some (vI (y7 + 1))]) (by decide) rfl K.1 rfl dX2_pair_109 ?_
    replace K := K.2
    refine J_goto (tgt := 86) dX2_pair_112 (by decide) ?_
    exact J_forget (loc' := [some (vR (some 43)), some (vI y1), some (vI y2), some (vI y3), some (vI y4), some (vI y5), some (vI (max y6 u2)), some (vI (y7 + 1))]) (And.intro (Or.inr rfl) (And.intro (Or.inr rfl) (And.intro (Or.inr rfl) (And.intro (Or.inr rfl) (And.intro (Or.inr rfl) (And.intro (Or.inr rfl) (And.intro (Or.inr rfl) (And.intro (Or.inr rfl) True.intro)))))))) K
set_option maxRecDepth 20000 in
set_option maxHeartbeats 2000000 in
theorem w_X2_pair {d b : Nat} {Q : Option AV → AH → Prop} {h : AH} {x1 : Int} {x2 : Int}  (K : Lp_X2_pair_7 d b Q x1 x2 (zshl 1 x2) 0 h) : WM GX (d + 1) b mX2_pair [vR (some 43), vI x1, vI x2] h Q := by
  refine WM_introE (loc' := [some (vR (some 43)), some (vI x1), some (vI x2), none, none, none, none, none]) rfl (by decide) (Nat.le_of_ble_eq_true rfl) ?_
  refine J_iconst (by decide) dX2_pair_0 ?_
  refine J_iload_n rfl dX2_pair_1 ?_
  refine J_ishl dX2_pair_2 ?_
  refine J_istore_n (loc' := [some (vR (some 43)), some (vI x1), some (vI x2), some (vI (zshl 1 x2)), none, none, none, none]) (by decide) rfl dX2_pair_3 ?_
  refine J_iconst (by decide) dX2_pair_4 ?_
  refine J_istore (loc' := [some (vR (some 43)), some (vI x1), some (vI x2), some (vI (zshl 1 x2)), some (vI 0), none, none, none]) (by decide) rfl dX2_pair_5 ?_
  exact J_forget (loc' := [some (vR (some 43)), some (vI x1), some (vI x2), some (vI (zshl 1 x2)), some (vI 0), none, none, none]) (And.intro (Or.inr rfl) (And.intro (Or.inr rfl) (And.intro (Or.inr rfl) (And.intro (Or.inr rfl) (And.intro (Or.inr rfl) (And.intro (Or.inl rfl) (And.intro (Or.inl rfl) (And.intro (Or.inl rfl) True.intro)))))))) K
set_option maxRecDepth 20000 in
set_option maxHeartbeats 2000000 in
theorem w_X7_hanging {d b : Nat} {Q : Option AV → AH → Prop} {h : AH} {x1 : Int}  (K : R32 x1 → (x1 = 0 → WM GX (d + 4) 0 mX2_hangAll [vR (some 43), vR (some 1), vR (some 38)] h (fun r h1 => ∃ u1, r = some (vI u1) ∧ (x1 = 0 → R32 (Int.tdiv u1 16) ∧ Q (some (vI (Int.tdiv u1 16))) h1) ∧ (¬(x1 = 0) → (x1 = 1 → R32 (Int.tmod u1 16) ∧ Q (some (vI (Int.tmod u1 16))) h1) ∧ (¬(x1 = 1) → R32 (x1 - 2) ∧ (0 ≤ x1 - 2 ∧ x1 - 2 < 8) ∧ Q (some (vI (gi h1 49 (x1 - 2)))) h1)))) ∧ (¬(x1 = 0) → (x1 = 1 → WM GX (d + 4) 0 mX2_hangAll [vR (some 43), vR (some 1), vR (some 38)] h (fun r h3 => ∃ u3, r = some (vI u3) ∧ (x1 = 0 → R32 (Int.tdiv u3 16) ∧ Q (some (vI (Int.tdiv u3 16))) h3) ∧ (¬(x1 = 0) → (x1 = 1 → R32 (Int.tmod u3 16) ∧ Q (some (vI (Int.tmod u3 16))) h3) ∧ (¬(x1 = 1) → R32 (x1 - 2) ∧ (0 ≤ x1 - 2 ∧ x1 - 2 < 8) ∧ Q (some (vI (gi h3 49 (x1 - 2)))) h3)))) ∧ (¬(x1 = 1) → (0 ≤ gi h 1 2 ∧ gi h 1 2 ≤ 8) ∧ ((0 : Int) ≤ 2 ∧ (2 : Int) ≤ 2) ∧ (R32 x1) ∧ (2 ≤ x1 ∧ x1 - 2 < gi h 1 2 ∧ ¬(gi h 7 (x1 - 2) = -1 ∧ gi h 8 (x1 - 2) = -1) → WM GX (d + 4) 0 mX2_hangAll [vR (some 43), vR (some 1), vR (some 38)] h (fun r h2 => ∃ u2, r = some (vI u2) ∧ (x1 = 0 → R32 (Int.tdiv u2 16) ∧ Q (some (vI (Int.tdiv u2 16))) h2) ∧ (¬(x1 = 0) → (x1 = 1 → R32 (Int.tmod u2 16) ∧ Q (some (vI (Int.tmod u2 16))) h2) ∧ (¬(x1 = 1) → R32 (x1 - 2) ∧ (0 ≤ x1 - 2 ∧ x1 - 2 < 8) ∧ Q (some (vI (gi h2 49 (x1 - 2)))) h2)))) ∧ (¬(2 ≤ x1 ∧ x1 - 2 < gi h 1 2 ∧ ¬(gi h 7 (x1 - 2) = -1 ∧ gi h 8 (x1 - 2) = -1)) → Q (some (vI (-1))) h)))) : WM GX (d + 5) b mX7_hanging [vR (some 0), vI x1] h Q := by
  refine WM_introE (loc' := [some (vR (some 0)), some (vI x1), none, none]) rfl (by decide) (Nat.le_of_ble_eq_true rfl) ?_
  refine J_rgl (i := 1) rfl (fun r1 => ?_)
  replace K := K r1
  refine J_iload_n rfl dX7_hanging_0 ?_
  refine J_if_eq (tgt := 9) dX7_hanging_1 (by decide) (fun c => ?_) (fun c => ?_)
  · replace K := K.1 c
    refine J_iconst (by decide) dX7_hanging_9 ?_
    refine J_goto (tgt := 14) dX7_hanging_10 (by decide) ?_
    refine J_istore_n (loc' := [some (vR (some 0)), some (vI x1), some (vI 1), none]) (by decide) rfl dX7_hanging_14 ?_
    refine J_iload_n rfl dX7_hanging_15 ?_
    refine J_if_ne (tgt := 30) dX7_hanging_16 (by decide) (fun _ => ?_) (fun c => absurd c (by decide))
    refine J_aload_n rfl dX7_hanging_30 ?_
    refine J_getS (r := 43) fl_RX7_64 rfl (Or.inl rfl) rfl dX7_hanging_31 ?_
    refine J_aload_n rfl dX7_hanging_34 ?_
    refine J_getS (r := 1) fl_RX7_10 rfl (Or.inl rfl) rfl dX7_hanging_35 ?_
    refine J_aload_n rfl dX7_hanging_38 ?_
    refine J_getS (r := 38) fl_RX7_50 rfl (Or.inl rfl) rfl dX7_hanging_39 ?_
    refine J_b0 (J_callV (b1 := 0) (ci := 2) (vs := [vR (some 1), vR (some 38)]) (rest := []) (Or.inr rfl) ml_RX7_253 rfl (by decide) rfl rfl (Or.inl rfl) (Nat.le_of_ble_eq_true rfl) rfl dX7_hanging_42 (WM_mono K (fun r h1 K => ?_)))
    obtain ⟨u1, rfl, K⟩ := K
    show J _ _ _ _ _ _ _ [vI u1] _
    refine J_istore_n (loc' := [some (vR (some 0)), some (vI x1), some (vI 1), some (vI u1)]) (by decide) rfl dX7_hanging_45 ?_
    refine J_iload_n rfl dX7_hanging_46 ?_
    refine J_if_ne (tgt := 55) dX7_hanging_47 (by decide) (fun c => ?_) (fun c => ?_)
    · replace K := K.2 c
      refine J_iload_n rfl dX7_hanging_55 ?_
      refine J_iconst (by decide) dX7_hanging_56 ?_
      refine J_icmp_ne (tgt := 65) dX7_hanging_57 (by decide) (fun c => ?_) (fun c => ?_)
      · replace K := K.2 c
        refine J_aload_n rfl dX7_hanging_65 ?_
        refine J_getS (r := 43) fl_RX7_64 rfl (Or.inl rfl) rfl dX7_hanging_66 ?_
        refine J_getS (r := 49) fl_RX7_257 rfl (Or.inl rfl) rfl dX7_hanging_69 ?_
        refine J_iload_n rfl dX7_hanging_72 ?_
        refine J_iconst (by decide) dX7_hanging_73 ?_
        refine J_isub K.1 dX7_hanging_74 ?_
        replace K := K.2
        refine J_iaload (Or.inl rfl) K.1 dX7_hanging_75 ?_
        replace K := K.2
        exact J_ireturn rfl dX7_hanging_76 K
      · replace K := K.1 c
        refine J_iload_n rfl dX7_hanging_60 ?_
        refine J_bipush (by decide) (by decide) dX7_hanging_61 ?_
        refine J_irem (by decide) K.1 dX7_hanging_63 ?_
        replace K := K.2
        exact J_ireturn rfl dX7_hanging_64 K
    · replace K := K.1 c
      refine J_iload_n rfl dX7_hanging_50 ?_
      refine J_bipush (by decide) (by decide) dX7_hanging_51 ?_
      refine J_idiv (by decide) K.1 dX7_hanging_53 ?_
      replace K := K.2
      exact J_ireturn rfl dX7_hanging_54 K
  · replace K := K.2 c
    refine J_iload_n rfl dX7_hanging_4 ?_
    refine J_iconst (by decide) dX7_hanging_5 ?_
    refine J_icmp_ne (tgt := 13) dX7_hanging_6 (by decide) (fun c => ?_) (fun c => ?_)
    · replace K := K.2 c
      refine J_iconst (by decide) dX7_hanging_13 ?_
      refine J_istore_n (loc' := [some (vR (some 0)), some (vI x1), some (vI 0), none]) (by decide) rfl dX7_hanging_14 ?_
      refine J_iload_n rfl dX7_hanging_15 ?_
      refine J_if_ne (tgt := 30) dX7_hanging_16 (by decide) (fun c => absurd c (by decide)) (fun _ => ?_)
      refine J_aload_n rfl dX7_hanging_19 ?_
      refine J_iload_n rfl dX7_hanging_20 ?_
      refine J_iconst (by decide) dX7_hanging_21 ?_
      refine J_b0 (J_callV (b1 := 0) (ci := 7) (vs := [vI x1, vI 2]) (rest := []) (Or.inl rfl) ml_RX7_249 rfl (by decide) rfl rfl (Or.inl rfl) (Nat.le_of_ble_eq_true rfl) rfl dX7_hanging_22 (c_X7_isNotLost  K.1 K.2.1 K.2.2.1 ?_))
      replace K := K.2.2.2
      show J _ _ _ _ _ _ _ [vI (b2i (2 ≤ x1 ∧ x1 - 2 < gi h 1 2 ∧ ¬(gi h 7 (x1 - 2) = -1 ∧ gi h 8 (x1 - 2) = -1)))] _
      refine J_if_ne (tgt := 30) dX7_hanging_25 (by decide) (fun c => ?_) (fun c => ?_)
      · replace K := K.1 (b2i_n0.mp c)
        refine J_aload_n rfl dX7_hanging_30 ?_
        refine J_getS (r := 43) fl_RX7_64 rfl (Or.inl rfl) rfl dX7_hanging_31 ?_
        refine J_aload_n rfl dX7_hanging_34 ?_
        refine J_getS (r := 1) fl_RX7_10 rfl (Or.inl rfl) rfl dX7_hanging_35 ?_
        refine J_aload_n rfl dX7_hanging_38 ?_
        refine J_getS (r := 38) fl_RX7_50 rfl (Or.inl rfl) rfl dX7_hanging_39 ?_
        refine J_b0 (J_callV (b1 := 0) (ci := 2) (vs := [vR (some 1), vR (some 38)]) (rest := []) (Or.inr rfl) ml_RX7_253 rfl (by decide) rfl rfl (Or.inl rfl) (Nat.le_of_ble_eq_true rfl) rfl dX7_hanging_42 (WM_mono K (fun r h2 K => ?_)))
        obtain ⟨u2, rfl, K⟩ := K
        show J _ _ _ _ _ _ _ [vI u2] _
        refine J_istore_n (loc' := [some (vR (some 0)), some (vI x1), some (vI 0), some (vI u2)]) (by decide) rfl dX7_hanging_45 ?_
        refine J_iload_n rfl dX7_hanging_46 ?_
        refine J_if_ne (tgt := 55) dX7_hanging_47 (by decide) (fun c => ?_) (fun c => ?_)
        · replace K := K.2 c
          refine J_iload_n rfl dX7_hanging_55 ?_
          refine J_iconst (by decide) dX7_hanging_56 ?_
          refine J_icmp_ne (tgt := 65) dX7_hanging_57 (by decide) (fun c => ?_) (fun c => ?_)
          · replace K := K.2 c
            refine J_aload_n rfl dX7_hanging_65 ?_
            refine J_getS (r := 43) fl_RX7_64 rfl (Or.inl rfl) rfl dX7_hanging_66 ?_
            refine J_getS (r := 49) fl_RX7_257 rfl (Or.inl rfl) rfl dX7_hanging_69 ?_
            refine J_iload_n rfl dX7_hanging_72 ?_
            refine J_iconst (by decide) dX7_hanging_73 ?_
            refine J_isub K.1 dX7_hanging_74 ?_
            replace K := K.2
            refine J_iaload (Or.inl rfl) K.1 dX7_hanging_75 ?_
            replace K := K.2
            exact J_ireturn rfl dX7_hanging_76 K
          · replace K := K.1 c
            refine J_iload_n rfl dX7_hanging_60 ?_
            refine J_bipush (by decide) (by decide) dX7_hanging_61 ?_
            refine J_irem (by decide) K.1 dX7_hanging_63 ?_
            replace K := K.2
            exact J_ireturn rfl dX7_hanging_64 K
        · replace K := K.1 c
          refine J_iload_n rfl dX7_hanging_50 ?_
          refine J_bipush (by decide) (by decide) dX7_hanging_51 ?_
          refine J_idiv (by decide) K.1 dX7_hanging_53 ?_
          replace K := K.2
          exact J_ireturn rfl dX7_hanging_54 K
      · replace K := K.2 (b2i_0.mp c)
        refine J_iconst (by decide) dX7_hanging_28 ?_
        exact J_ireturn rfl dX7_hanging_29 K
    · replace K := K.1 c
      refine J_iconst (by decide) dX7_hanging_9 ?_
      refine J_goto (tgt := 14) dX7_hanging_10 (by decide) ?_
      refine J_istore_n (loc' := [some (vR (some 0)), some (vI x1), some (vI 1), none]) (by decide) rfl dX7_hanging_14 ?_
      refine J_iload_n rfl dX7_hanging_15 ?_
      refine J_if_ne (tgt := 30) dX7_hanging_16 (by decide) (fun _ => ?_) (fun c => absurd c (by decide))
      refine J_aload_n rfl dX7_hanging_30 ?_
      refine J_getS (r := 43) fl_RX7_64 rfl (Or.inl rfl) rfl dX7_hanging_31 ?_
      refine J_aload_n rfl dX7_hanging_34 ?_
      refine J_getS (r := 1) fl_RX7_10 rfl (Or.inl rfl) rfl dX7_hanging_35 ?_
      refine J_aload_n rfl dX7_hanging_38 ?_
      refine J_getS (r := 38) fl_RX7_50 rfl (Or.inl rfl) rfl dX7_hanging_39 ?_
      refine J_b0 (J_callV (b1 := 0) (ci := 2) (vs := [vR (some 1), vR (some 38)]) (rest := []) (Or.inr rfl) ml_RX7_253 rfl (by decide) rfl rfl (Or.inl rfl) (Nat.le_of_ble_eq_true rfl) rfl dX7_hanging_42 (WM_mono K (fun r h3 K => ?_)))
      obtain ⟨u3, rfl, K⟩ := K
      show J _ _ _ _ _ _ _ [vI u3] _
      refine J_istore_n (loc' := [some (vR (some 0)), some (vI x1), some (vI 1), some (vI u3)]) (by decide) rfl dX7_hanging_45 ?_
      refine J_iload_n rfl dX7_hanging_46 ?_
      refine J_if_ne (tgt := 55) dX7_hanging_47 (by decide) (fun c => ?_) (fun c => ?_)
      · replace K := K.2 c
        refine J_iload_n rfl dX7_hanging_55 ?_
        refine J_iconst (by decide) dX7_hanging_56 ?_
        refine J_icmp_ne (tgt := 65) dX7_hanging_57 (by decide) (fun c => ?_) (fun c => ?_)
        · replace K := K.2 c
          refine J_aload_n rfl dX7_hanging_65 ?_
          refine J_getS (r := 43) fl_RX7_64 rfl (Or.inl rfl) rfl dX7_hanging_66 ?_
          refine J_getS (r := 49) fl_RX7_257 rfl (Or.inl rfl) rfl dX7_hanging_69 ?_
          refine J_iload_n rfl dX7_hanging_72 ?_
          refine J_iconst (by decide) dX7_hanging_73 ?_
          refine J_isub K.1 dX7_hanging_74 ?_
          replace K := K.2
          refine J_iaload (Or.inl rfl) K.1 dX7_hanging_75 ?_
          replace K := K.2
          exact J_ireturn rfl dX7_hanging_76 K
        · replace K := K.1 c
          refine J_iload_n rfl dX7_hanging_60 ?_
          refine J_bipush (by decide) (by decide) dX7_hanging_61 ?_
          refine J_irem (by decide) K.1 dX7_hanging_63 ?_
          replace K := K.2
          exact J_ireturn rfl dX7_hanging_64 K
      · replace K := K.1 c
        refine J_iload_n rfl dX7_hanging_50 ?_
        refine J_bipush (by decide) (by decide) dX7_hanging_51 ?_
        refine J_idiv (by decide) K.1 dX7_hanging_53 ?_
        replace K := K.2
        exact J_ireturn rfl dX7_hanging_54 K
set_option maxRecDepth 20000 in
set_option maxHeartbeats 2000000 in
theorem w_X7_battle {d b : Nat} {Q : Option AV → AH → Prop} {h : AH} {x1 : Int}  (K : R32 x1 → (x1 = 0 → WM GX (d + 2) 0 mX2_fight [vR (some 43), vR (some 1)] h (fun r h1 => ∃ u1, r = some (vI u1) ∧ (x1 = 0 → Q (some (vI u1)) h1) ∧ (¬(x1 = 0) → R32 (x1 - 1) ∧ (0 ≤ x1 - 1 ∧ x1 - 1 < 8) ∧ Q (some (vI (gi h1 49 (x1 - 1)))) h1))) ∧ (¬(x1 = 0) → (0 ≤ gi h 1 2 ∧ gi h 1 2 ≤ 8) ∧ ((0 : Int) ≤ 1 ∧ (1 : Int) ≤ 2) ∧ (R32 x1) ∧ (1 ≤ x1 ∧ x1 - 1 < gi h 1 2 ∧ ¬(gi h 7 (x1 - 1) = -1 ∧ gi h 8 (x1 - 1) = -1) → WM GX (d + 2) 0 mX2_fight [vR (some 43), vR (some 1)] h (fun r h2 => ∃ u2, r = some (vI u2) ∧ (x1 = 0 → Q (some (vI u2)) h2) ∧ (¬(x1 = 0) → R32 (x1 - 1) ∧ (0 ≤ x1 - 1 ∧ x1 - 1 < 8) ∧ Q (some (vI (gi h2 49 (x1 - 1)))) h2))) ∧ (¬(1 ≤ x1 ∧ x1 - 1 < gi h 1 2 ∧ ¬(gi h 7 (x1 - 1) = -1 ∧ gi h 8 (x1 - 1) = -1)) → Q (some (vI (-1))) h))) : WM GX (d + 3) b mX7_battle [vR (some 0), vI x1] h Q := by
  refine WM_introE (loc' := [some (vR (some 0)), some (vI x1), none]) rfl (by decide) (Nat.le_of_ble_eq_true rfl) ?_
  refine J_rgl (i := 1) rfl (fun r1 => ?_)
  replace K := K r1
  refine J_iload_n rfl dX7_battle_0 ?_
  refine J_if_eq (tgt := 15) dX7_battle_1 (by decide) (fun c => ?_) (fun c => ?_)
  · replace K := K.1 c
    refine J_aload_n rfl dX7_battle_15 ?_
    refine J_getS (r := 43) fl_RX7_64 rfl (Or.inl rfl) rfl dX7_battle_16 ?_
    refine J_aload_n rfl dX7_battle_19 ?_
    refine J_getS (r := 1) fl_RX7_10 rfl (Or.inl rfl) rfl dX7_battle_20 ?_
    refine J_b0 (J_callV (b1 := 0) (ci := 2) (vs := [vR (some 1)]) (rest := []) (Or.inr rfl) ml_RX7_280 rfl (by decide) rfl rfl (Or.inl rfl) (Nat.le_of_ble_eq_true rfl) rfl dX7_battle_23 (WM_mono K (fun r h1 K => ?_)))
    obtain ⟨u1, rfl, K⟩ := K
    show J _ _ _ _ _ _ _ [vI u1] _
    refine J_istore_n (loc' := [some (vR (some 0)), some (vI x1), some (vI u1)]) (by decide) rfl dX7_battle_26 ?_
    refine J_iload_n rfl dX7_battle_27 ?_
    refine J_if_ne (tgt := 35) dX7_battle_28 (by decide) (fun c => ?_) (fun c => ?_)
    · replace K := K.2 c
      refine J_aload_n rfl dX7_battle_35 ?_
      refine J_getS (r := 43) fl_RX7_64 rfl (Or.inl rfl) rfl dX7_battle_36 ?_
      refine J_getS (r := 49) fl_RX7_257 rfl (Or.inl rfl) rfl dX7_battle_39 ?_
      refine J_iload_n rfl dX7_battle_42 ?_
      refine J_iconst (by decide) dX7_battle_43 ?_
      refine J_isub K.1 dX7_battle_44 ?_
      replace K := K.2
      refine J_iaload (Or.inl rfl) K.1 dX7_battle_45 ?_
      replace K := K.2
      exact J_ireturn rfl dX7_battle_46 K
    · replace K := K.1 c
      refine J_iload_n rfl dX7_battle_31 ?_
      refine J_goto (tgt := 46) dX7_battle_32 (by decide) ?_
      exact J_ireturn rfl dX7_battle_46 K
  · replace K := K.2 c
    refine J_aload_n rfl dX7_battle_4 ?_
    refine J_iload_n rfl dX7_battle_5 ?_
    refine J_iconst (by decide) dX7_battle_6 ?_
    refine J_b0 (J_callV (b1 := 0) (ci := 7) (vs := [vI x1, vI 1]) (rest := []) (Or.inl rfl) ml_RX7_249 rfl (by decide) rfl rfl (Or.inl rfl) (Nat.le_of_ble_eq_true rfl) rfl dX7_battle_7 (c_X7_isNotLost  K.1 K.2.1 K.2.2.1 ?_))
    replace K := K.2.2.2
    show J _ _ _ _ _ _ _ [vI (b2i (1 ≤ x1 ∧ x1 - 1 < gi h 1 2 ∧ ¬(gi h 7 (x1 - 1) = -1 ∧ gi h 8 (x1 - 1) = -1)))] _
    refine J_if_ne (tgt := 15) dX7_battle_10 (by decide) (fun c => ?_) (fun c => ?_)
    · replace K := K.1 (b2i_n0.mp c)
      refine J_aload_n rfl dX7_battle_15 ?_
      refine J_getS (r := 43) fl_RX7_64 rfl (Or.inl rfl) rfl dX7_battle_16 ?_
      refine J_aload_n rfl dX7_battle_19 ?_
      refine J_getS (r := 1) fl_RX7_10 rfl (Or.inl rfl) rfl dX7_battle_20 ?_
      refine J_b0 (J_callV (b1 := 0) (ci := 2) (vs := [vR (some 1)]) (rest := []) (Or.inr rfl) ml_RX7_280 rfl (by decide) rfl rfl (Or.inl rfl) (Nat.le_of_ble_eq_true rfl) rfl dX7_battle_23 (WM_mono K (fun r h2 K => ?_)))
      obtain ⟨u2, rfl, K⟩ := K
      show J _ _ _ _ _ _ _ [vI u2] _
      refine J_istore_n (loc' := [some (vR (some 0)), some (vI x1), some (vI u2)]) (by decide) rfl dX7_battle_26 ?_
      refine J_iload_n rfl dX7_battle_27 ?_
      refine J_if_ne (tgt := 35) dX7_battle_28 (by decide) (fun c => ?_) (fun c => ?_)
      · replace K := K.2 c
        refine J_aload_n rfl dX7_battle_35 ?_
        refine J_getS (r := 43) fl_RX7_64 rfl (Or.inl rfl) rfl dX7_battle_36 ?_
        refine J_getS (r := 49) fl_RX7_257 rfl (Or.inl rfl) rfl dX7_battle_39 ?_
        refine J_iload_n rfl dX7_battle_42 ?_
        refine J_iconst (by decide) dX7_battle_43 ?_
        refine J_isub K.1 dX7_battle_44 ?_
        replace K := K.2
        refine J_iaload (Or.inl rfl) K.1 dX7_battle_45 ?_
        replace K := K.2
        exact J_ireturn rfl dX7_battle_46 K
      · replace K := K.1 c
        refine J_iload_n rfl dX7_battle_31 ?_
        refine J_goto (tgt := 46) dX7_battle_32 (by decide) ?_
        exact J_ireturn rfl dX7_battle_46 K
    · replace K := K.2 (b2i_0.mp c)
      refine J_iconst (by decide) dX7_battle_13 ?_
      exact J_ireturn rfl dX7_battle_14 K
set_option maxRecDepth 20000 in
set_option maxHeartbeats 2000000 in
theorem w_X8_worthOf {d b : Nat} {Q : Option AV → AH → Prop} {h : AH} {x1 : Int} {x2 : Int} {x3 : Int}  (K : (x1 = 0 → WM GM (d + 5) 0 mX8_fits [vR (some 0), vI x2, vI x3] h (fun r h1 => ∃ u1, r = some (vI u1) ∧ (u1 = 0 → Q (some (vI (-1))) h1) ∧ (¬(u1 = 0) → R32 (88 + x2) ∧ (0 ≤ 88 + x2 ∧ 88 + x2 < 5540) ∧ (gi h1 2 (88 + x2) = x3 → Q (some (vI (16 + 1))) h1) ∧ (¬(gi h1 2 (88 + x2) = x3) → Q (some (vI (16 + 0))) h1)))) ∧ (¬(x1 = 0) → R32 (72 + x2) ∧ (0 ≤ 72 + x2 ∧ 72 + x2 < 5540) ∧ R32 (129 + x3) ∧ (0 ≤ 129 + x3 ∧ 129 + x3 < 5540) ∧ (gi h 2 (72 + x2) ≤ gi h 2 (129 + x3) → Q (some (vI 0)) h) ∧ (¬(gi h 2 (72 + x2) ≤ gi h 2 (129 + x3)) → Q (some (vI 1)) h))) : WM GM (d + 6) b mX8_worthOf [vR (some 0), vI x1, vI x2, vI x3] h Q := by
  refine WM_introE (loc' := [some (vR (some 0)), some (vI x1), some (vI x2), some (vI x3)]) rfl (by decide) (Nat.le_of_ble_eq_true rfl) ?_
  refine J_iload_n rfl dX8_worthOf_0 ?_
  refine J_if_eq (tgt := 32) dX8_worthOf_1 (by decide) (fun c => ?_) (fun c => ?_)
  · replace K := K.1 c
    refine J_aload_n rfl dX8_worthOf_32 ?_
    refine J_iload_n rfl dX8_worthOf_33 ?_
    refine J_iload_n rfl dX8_worthOf_34 ?_
    refine J_b0 (J_callV (b1 := 0) (ci := 8) (vs := [vI x2, vI x3]) (rest := []) (Or.inl rfl) ml_RX8_209 rfl (by decide) rfl rfl (Or.inl rfl) (Nat.le_of_ble_eq_true rfl) rfl dX8_worthOf_35 (WM_mono K (fun r h1 K => ?_)))
    obtain ⟨u1, rfl, K⟩ := K
    show J _ _ _ _ _ _ _ [vI u1] _
    refine J_if_ne (tgt := 45) dX8_worthOf_38 (by decide) (fun c => ?_) (fun c => ?_)
    · replace K := K.2 c
      refine J_bipush (by decide) (by decide) dX8_worthOf_45 ?_
      refine J_aload_n rfl dX8_worthOf_47 ?_
      refine J_getS (r := 2) fl_RX8_13 rfl (Or.inl rfl) rfl dX8_worthOf_48 ?_
      refine J_bipush (by decide) (by decide) dX8_worthOf_51 ?_
      refine J_iload_n rfl dX8_worthOf_53 ?_
      refine J_iadd K.1 dX8_worthOf_54 ?_
      replace K := K.2
      refine J_iaload (Or.inl rfl) K.1 dX8_worthOf_55 ?_
      replace K := K.2
      refine J_iload_n rfl dX8_worthOf_56 ?_
      refine J_icmp_ne (tgt := 64) dX8_worthOf_57 (by decide) (fun c => ?_) (fun c => ?_)
      · replace K := K.2 c
        refine J_iconst (by decide) dX8_worthOf_64 ?_
        refine J_iadd (by decide) dX8_worthOf_65 ?_
        exact J_ireturn rfl dX8_worthOf_66 K
      · replace K := K.1 c
        refine J_iconst (by decide) dX8_worthOf_60 ?_
        refine J_goto (tgt := 65) dX8_worthOf_61 (by decide) ?_
        refine J_iadd (by decide) dX8_worthOf_65 ?_
        exact J_ireturn rfl dX8_worthOf_66 K
    · replace K := K.1 c
      refine J_iconst (by decide) dX8_worthOf_41 ?_
      refine J_goto (tgt := 66) dX8_worthOf_42 (by decide) ?_
      exact J_ireturn rfl dX8_worthOf_66 K
  · replace K := K.2 c
    refine J_aload_n rfl dX8_worthOf_4 ?_
    refine J_getS (r := 2) fl_RX8_13 rfl (Or.inl rfl) rfl dX8_worthOf_5 ?_
    refine J_bipush (by decide) (by decide) dX8_worthOf_8 ?_
    refine J_iload_n rfl dX8_worthOf_10 ?_
    refine J_iadd K.1 dX8_worthOf_11 ?_
    replace K := K.2
    refine J_iaload (Or.inl rfl) K.1 dX8_worthOf_12 ?_
    replace K := K.2
    refine J_aload_n rfl dX8_worthOf_13 ?_
    refine J_getS (r := 2) fl_RX8_13 rfl (Or.inl rfl) rfl dX8_worthOf_14 ?_
    refine J_sipush (by decide) (by decide) dX8_worthOf_17 ?_
    refine J_iload_n rfl dX8_worthOf_20 ?_
    refine J_iadd K.1 dX8_worthOf_21 ?_
    replace K := K.2
    refine J_iaload (Or.inl rfl) K.1 dX8_worthOf_22 ?_
    replace K := K.2
    refine J_icmp_le (tgt := 30) dX8_worthOf_23 (by decide) (fun c => ?_) (fun c => ?_)
    · replace K := K.1 c
      refine J_iconst (by decide) dX8_worthOf_30 ?_
      exact J_ireturn rfl dX8_worthOf_31 K
    · replace K := K.2 c
      refine J_iconst (by decide) dX8_worthOf_26 ?_
      refine J_goto (tgt := 31) dX8_worthOf_27 (by decide) ?_
      exact J_ireturn rfl dX8_worthOf_31 K
def Lp_X8_layMost_30 (d b : Nat) (Q : Option AV → AH → Prop)  (y1 : Int) (y2 : Int) (y3 : Int) (y4 : Int) (h : AH) : Prop := J GM (d + 7) b mX8_layMost Q 30 [some (vR (some 0)), some (vI y1), some (vI y2), some (vI y3), some (vI y4), none, none, none, none] [] h
def Lp_X8_layMost_63 (d b : Nat) (Q : Option AV → AH → Prop)  (y1 : Int) (y3 : Int) (y4 : Int) (h : AH) : Prop := J GM (d + 7) b mX8_layMost Q 63 [some (vR (some 0)), some (vI y1), none, some (vI y3), some (vI y4), none, none, none, none] [] h
def Lp_X8_layMost_71 (d b : Nat) (Q : Option AV → AH → Prop)  (y1 : Int) (y3 : Int) (y4 : Int) (y5 : Int) (h : AH) : Prop := J GM (d + 7) b mX8_layMost Q 71 [some (vR (some 0)), some (vI y1), none, some (vI y3), some (vI y4), some (vI y5), none, none, none] [] h
def Lp_X8_layMost_120 (d b : Nat) (Q : Option AV → AH → Prop)  (y1 : Int) (y3 : Int) (y4 : Int) (y5 : Int) (h : AH) : Prop := J GM (d + 7) b mX8_layMost Q 120 [some (vR (some 0)), some (vI y1), none, some (vI y3), some (vI y4), some (vI y5), none, none, none] [] h
def Lp_X8_layMost_153 (d b : Nat) (Q : Option AV → AH → Prop)  (y1 : Int) (y3 : Int) (y4 : Int) (y5 : Int) (y6 : Int) (y7 : Int) (h : AH) : Prop := J GM (d + 7) b mX8_layMost Q 153 [some (vR (some 0)), some (vI y1), none, some (vI y3), some (vI y4), some (vI y5), some (vI y6), some (vI y7), none] [] h
set_option maxRecDepth 20000 in
set_option maxHeartbeats 2000000 in
theorem l_X8_layMost_30 {d b : Nat} {Q : Option AV → AH → Prop} {h : AH}  {y1 : Int} {y2 : Int} {y3 : Int} {y4 : Int}  (K : (256 ≤ y4 → R32 (y2 - 1) ∧ Lp_X8_layMost_63 d b Q y1 y3 (y2 - 1) h) ∧ (¬(256 ≤ y4) → R32 (256 * y2) ∧ R32 ((256 * y2) + y4) ∧ (0 ≤ (256 * y2) + y4 ∧ (256 * y2) + y4 < 2304) ∧ ∀ h1, h1 = si h 22 ((256 * y2) + y4) 0 → R32 (y4 + 1) ∧ Lp_X8_layMost_30 d b Q y1 y2 y3 (y4 + 1) h1)) : Lp_X8_layMost_30 d b Q y1 y2 y3 y4 h := by
  unfold Lp_X8_layMost_30
  refine J_iload rfl dX8_layMost_30 ?_
  refine J_sipush (by decide) (by decide) dX8_layMost_32 ?_
  refine J_icmp_ge (tgt := 58) dX8_layMost_35 (by decide) (fun c => ?_) (fun c => ?_)
  · replace K := K.1 c
    refine J_iload_n rfl dX8_layMost_58 ?_
    refine J_iconst (by decide) dX8_layMost_59 ?_
    refine J_isub K.1 dX8_layMost_60 ?_
    replace K := K.2
    refine J_istore (loc' := [some (vR (some 0)), some (vI y1), some (vI y2), some (vI y3), some (vI (y2 - 1)), none, none, none, none]) (by decide) rfl dX8_layMost_61 ?_
    exact J_forget (loc' := [some (vR (some 0)), some (vI y1), none, some (vI y3), some (vI (y2 - 1)), none, none, none, none]) (And.intro (Or.inr rfl) (And.intro (Or.inr rfl) (And.intro (Or.inl rfl) (And.intro (Or.inr rfl) (And.intro (Or.inr rfl) (And.intro (Or.inl rfl) (And.intro (Or.inl rfl) (And.intro (Or.inl rfl) (And.intro (Or.inl rfl) True.intro))))))))) K
  · replace K := K.2 c
    refine J_aload_n rfl dX8_layMost_38 ?_
    refine J_getS (r := 22) fl_RX8_117 rfl (Or.inl rfl) rfl dX8_layMost_39 ?_
    refine J_sipush (by decide) (by decide) dX8_layMost_42 ?_
    refine J_iload_n rfl dX8_layMost_45 ?_
    refine J_imul K.1 dX8_layMost_46 ?_
    replace K := K.2
    refine J_iload rfl dX8_layMost_47 ?_
    refine J_iadd K.1 dX8_layMost_49 ?_
    replace K := K.2
    refine J_iconst (by decide) dX8_layMost_50 ?_
    refine J_iastore (Or.inl rfl) K.1 dX8_layMost_51 ?_
    replace K := K.2
    replace K := K _ rfl
    refine J_iinc (loc' := [some (vR (some 0)), some (vI y1), some (vI y2), some (vI y3), some (vI (y4 + 1)), none, none, none, none]) (by decide) rfl K.1 rfl dX8_layMost_52 ?_
    replace K := K.2
    refine J_goto (tgt := 30) dX8_layMost_55 (by decide) ?_
    exact J_forget (loc' := [some (vR (some 0)), some (vI y1), some (vI y2), some (vI y3), some (vI (y4 + 1)), none, none, none, none]) (And.intro (Or.inr rfl) (And.intro (Or.inr rfl) (And.intro (Or.inr rfl) (And.intro (Or.inr rfl) (And.intro (Or.inr rfl) (And.intro (Or.inl rfl) (And.intro (Or.inl rfl) (And.intro (Or.inl rfl) (And.intro (Or.inl rfl) True.intro))))))))) K
set_option maxRecDepth 20000 in
set_option maxHeartbeats 2000000 in
theorem l_X8_layMost_63 {d b : Nat} {Q : Option AV → AH → Prop} {h : AH}  {y1 : Int} {y3 : Int} {y4 : Int}  (K : (y4 < 0 → Q none h) ∧ (¬(y4 < 0) → Lp_X8_layMost_71 d b Q y1 y3 y4 0 h)) : Lp_X8_layMost_63 d b Q y1 y3 y4 h := by
  unfold Lp_X8_layMost_63
  refine J_iload rfl dX8_layMost_63 ?_
  refine J_if_lt (tgt := 275) dX8_layMost_65 (by decide) (fun c => ?_) (fun c => ?_)
  · replace K := K.1 c
    exact J_return rfl dX8_layMost_275 K
  · replace K := K.2 c
    refine J_iconst (by decide) dX8_layMost_68 ?_
    refine J_istore (loc' := [some (vR (some 0)), some (vI y1), none, some (vI y3), some (vI y4), some (vI 0), none, none, none]) (by decide) rfl dX8_layMost_69 ?_
    exact J_forget (loc' := [some (vR (some 0)), some (vI y1), none, some (vI y3), some (vI y4), some (vI 0), none, none, none]) (And.intro (Or.inr rfl) (And.intro (Or.inr rfl) (And.intro (Or.inl rfl) (And.intro (Or.inr rfl) (And.intro (Or.inr rfl) (And.intro (Or.inr rfl) (And.intro (Or.inl rfl) (And.intro (Or.inl rfl) (And.intro (Or.inl rfl) True.intro))))))))) K
set_option maxRecDepth 20000 in
set_option maxHeartbeats 2000000 in
theorem l_X8_layMost_71 {d b : Nat} {Q : Option AV → AH → Prop} {h : AH}  {y1 : Int} {y3 : Int} {y4 : Int} {y5 : Int}  (K : (zshl 1 y3 ≤ y5 → Lp_X8_layMost_120 d b Q y1 y3 y4 0 h) ∧ (¬(zshl 1 y3 ≤ y5) → R32 (256 * y4) ∧ R32 ((256 * y4) + y5) ∧ R32 (256 * y4) ∧ R32 ((256 * y4) + 256) ∧ R32 (((256 * y4) + 256) + y5) ∧ (0 ≤ ((256 * y4) + 256) + y5 ∧ ((256 * y4) + 256) + y5 < 2304) ∧ (0 ≤ (256 * y4) + y5 ∧ (256 * y4) + y5 < 2304) ∧ ∀ h1, h1 = si h 22 ((256 * y4) + y5) (gi h 22 (((256 * y4) + 256) + y5)) → R32 (y5 + 1) ∧ Lp_X8_layMost_71 d b Q y1 y3 y4 (y5 + 1) h1)) : Lp_X8_layMost_71 d b Q y1 y3 y4 y5 h := by
  unfold Lp_X8_layMost_71
  refine J_iload rfl dX8_layMost_71 ?_
  refine J_iconst (by decide) dX8_layMost_73 ?_
  refine J_iload_n rfl dX8_layMost_74 ?_
  refine J_ishl dX8_layMost_75 ?_
  refine J_icmp_ge (tgt := 117) dX8_layMost_76 (by decide) (fun c => ?_) (fun c => ?_)
  · replace K := K.1 c
    refine J_iconst (by decide) dX8_layMost_117 ?_
    refine J_istore (loc' := [some (vR (some 0)), some (vI y1), none, some (vI y3), some (vI y4), some (vI 0), none, none, none]) (by decide) rfl dX8_layMost_118 ?_
    exact J_forget (loc' := [some (vR (some 0)), some (vI y1), none, some (vI y3), some (vI y4), some (vI 0), none, none, none]) (And.intro (Or.inr rfl) (And.intro (Or.inr rfl) (And.intro (Or.inl rfl) (And.intro (Or.inr rfl) (And.intro (Or.inr rfl) (And.intro (Or.inr rfl) (And.intro (Or.inl rfl) (And.intro (Or.inl rfl) (And.intro (Or.inl rfl) True.intro))))))))) K
  · replace K := K.2 c
    refine J_aload_n rfl dX8_layMost_79 ?_
    refine J_getS (r := 22) fl_RX8_117 rfl (Or.inl rfl) rfl dX8_layMost_80 ?_
    refine J_sipush (by decide) (by decide) dX8_layMost_83 ?_
    refine J_iload rfl dX8_layMost_86 ?_
    refine J_imul K.1 dX8_layMost_88 ?_
    replace K := K.2
    refine J_iload rfl dX8_layMost_89 ?_
    refine J_iadd K.1 dX8_layMost_91 ?_
    replace K := K.2
    refine J_aload_n rfl dX8_layMost_92 ?_
    refine J_getS (r := 22) fl_RX8_117 rfl (Or.inl rfl) rfl dX8_layMost_93 ?_
    refine J_sipush (by decide) (by decide) dX8_layMost_96 ?_
    refine J_iload rfl dX8_layMost_99 ?_
    refine J_imul K.1 dX8_layMost_101 ?_
    replace K := K.2
    refine J_sipush (by decide) (by decide) dX8_layMost_102 ?_
    refine J_iadd K.1 dX8_layMost_105 ?_
    replace K := K.2
    refine J_iload rfl dX8_layMost_106 ?_
    refine J_iadd K.1 dX8_layMost_108 ?_
    replace K := K.2
    refine J_iaload (Or.inl rfl) K.1 dX8_layMost_109 ?_
    replace K := K.2
    refine J_iastore (Or.inl rfl) K.1 dX8_layMost_110 ?_
    replace K := K.2
    replace K := K _ rfl
    refine J_iinc (loc' := [some (vR (some 0)), some (vI y1), none, some (vI y3), some (vI y4), some (vI (y5 + 1)), none, none, none]) (by decide) rfl K.1 rfl dX8_layMost_111 ?_
    replace K := K.2
    refine J_goto (tgt := 71) dX8_layMost_114 (by decide) ?_
    exact J_forget (loc' := [some (vR (some 0)), some (vI y1), none, some (vI y3), some (vI y4), some (vI (y5 + 1)), none, none, none]) (And.intro (Or.inr rfl) (And.intro (Or.inr rfl) (And.intro (Or.inl rfl) (And.intro (Or.inr rfl) (And.intro (Or.inr rfl) (And.intro (Or.inr rfl) (And.intro (Or.inl rfl) (And.intro (Or.inl rfl) (And.intro (Or.inl rfl) True.intro))))))))) K
set_option maxRecDepth 20000 in
set_option maxHeartbeats 2000000 in
theorem l_X8_layMost_120 {d b : Nat} {Q : Option AV → AH → Prop} {h : AH}  {y1 : Int} {y3 : Int} {y4 : Int} {y5 : Int}  (K : (y3 ≤ y5 → R32 (y4 + (-1)) ∧ Lp_X8_layMost_63 d b Q y1 y3 (y4 + (-1)) h) ∧ (¬(y3 ≤ y5) → R32 (31 + y4) ∧ (0 ≤ 31 + y4 ∧ 31 + y4 < 5540) ∧ (gi h 2 (31 + y4) = 0 → WM GM (d + 6) 0 mX8_worthOf [vR (some 0), vI y1, vI y4, vI y5] h (fun r h1 => ∃ u1, r = some (vI u1) ∧ Lp_X8_layMost_153 d b Q y1 y3 y4 y5 u1 0 h1)) ∧ (¬(gi h 2 (31 + y4) = 0) → R32 (y4 + (-1)) ∧ Lp_X8_layMost_63 d b Q y1 y3 (y4 + (-1)) h))) : Lp_X8_layMost_120 d b Q y1 y3 y4 y5 h := by
  unfold Lp_X8_layMost_120
  refine J_iload rfl dX8_layMost_120 ?_
  refine J_iload_n rfl dX8_layMost_122 ?_
  refine J_icmp_ge (tgt := 269) dX8_layMost_123 (by decide) (fun c => ?_) (fun c => ?_)
  · replace K := K.1 c
    refine J_iinc (loc' := [some (vR (some 0)), some (vI y1), none, some (vI y3), some (vI (y4 + (-1))), some (vI y5), none, none, none]) (by decide) rfl K.1 rfl dX8_layMost_269 ?_
    replace K := K.2
    refine J_goto (tgt := 63) dX8_layMost_272 (by decide) ?_
    exact J_forget (loc' := [some (vR (some 0)), some (vI y1), none, some (vI y3), some (vI (y4 + (-1))), none, none, none, none]) (And.intro (Or.inr rfl) (And.intro (Or.inr rfl) (And.intro (Or.inl rfl) (And.intro (Or.inr rfl) (And.intro (Or.inr rfl) (And.intro (Or.inl rfl) (And.intro (Or.inl rfl) (And.intro (Or.inl rfl) (And.intro (Or.inl rfl) True.intro))))))))) K
  · replace K := K.2 c
    refine J_aload_n rfl dX8_layMost_126 ?_
    refine J_getS (r := 2) fl_RX8_13 rfl (Or.inl rfl) rfl dX8_layMost_127 ?_
    refine J_bipush (by decide) (by decide) dX8_layMost_130 ?_
    refine J_iload rfl dX8_layMost_132 ?_
    refine J_iadd K.1 dX8_layMost_134 ?_
    replace K := K.2
    refine J_iaload (Or.inl rfl) K.1 dX8_layMost_135 ?_
    replace K := K.2
    refine J_if_ne (tgt := 269) dX8_layMost_136 (by decide) (fun c => ?_) (fun c => ?_)
    · replace K := K.2 c
      refine J_iinc (loc' := [some (vR (some 0)), some (vI y1), none, some (vI y3), some (vI (y4 + (-1))), some (vI y5), none, none, none]) (by decide) rfl K.1 rfl dX8_layMost_269 ?_
      replace K := K.2
      refine J_goto (tgt := 63) dX8_layMost_272 (by decide) ?_
      exact J_forget (loc' := [some (vR (some 0)), some (vI y1), none, some (vI y3), some (vI (y4 + (-1))), none, none, none, none]) (And.intro (Or.inr rfl) (And.intro (Or.inr rfl) (And.intro (Or.inl rfl) (And.intro (Or.inr rfl) (And.intro (Or.inr rfl) (And.intro (Or.inl rfl) (And.intro (Or.inl rfl) (And.intro (Or.inl rfl) (And.intro (Or.inl rfl) True.intro))))))))) K
    · replace K := K.1 c
      refine J_aload_n rfl dX8_layMost_139 ?_
      refine J_iload_n rfl dX8_layMost_140 ?_
      refine J_iload rfl dX8_layMost_141 ?_
      refine J_iload rfl dX8_layMost_143 ?_
      refine J_b0 (J_callV (b1 := 0) (ci := 8) (vs := [vI y1, vI y4, vI y5]) (rest := []) (Or.inl rfl) ml_RX8_477 rfl (by decide) rfl rfl (Or.inl rfl) (Nat.le_of_ble_eq_true rfl) rfl dX8_layMost_145 (WM_mono K (fun r h1 K => ?_)))
      obtain ⟨u1, rfl, K⟩ := K
      show J _ _ _ _ _ _ _ [vI u1] _
      refine J_istore (loc' := [some (vR (some 0)), some (vI y1), none, some (vI y3), some (vI y4), some (vI y5), some (vI u1), none, none]) (by decide) rfl dX8_layMost_148 ?_
      refine J_iconst (by decide) dX8_layMost_150 ?_
      refine J_istore (loc' := [some (vR (some 0)), some (vI y1), none, some (vI y3), some (vI y4), some (vI y5), some (vI u1), some (vI 0), none]) (by decide) rfl dX8_layMost_151 ?_
      exact J_forget (loc' := [some (vR (some 0)), some (vI y1), none, some (vI y3), some (vI y4), some (vI y5), some (vI u1), some (vI 0), none]) (And.intro (Or.inr rfl) (And.intro (Or.inr rfl) (And.intro (Or.inl rfl) (And.intro (Or.inr rfl) (And.intro (Or.inr rfl) (And.intro (Or.inr rfl) (And.intro (Or.inr rfl) (And.intro (Or.inr rfl) (And.intro (Or.inl rfl) True.intro))))))))) K
set_option maxRecDepth 20000 in
set_option maxHeartbeats 2000000 in
theorem l_X8_layMost_153 {d b : Nat} {Q : Option AV → AH → Prop} {h : AH}  {y1 : Int} {y3 : Int} {y4 : Int} {y5 : Int} {y6 : Int} {y7 : Int}  (K : (zshl 1 y3 ≤ y7 → R32 (y5 + 1) ∧ Lp_X8_layMost_120 d b Q y1 y3 y4 (y5 + 1) h) ∧ (¬(zshl 1 y3 ≤ y7) → (y6 = (-1) → R32 (y5 + 1) ∧ Lp_X8_layMost_120 d b Q y1 y3 y4 (y5 + 1) h) ∧ (¬(y6 = (-1)) → (zand (zshr y7 y5) 1 = 1 → R32 (y7 + 1) ∧ Lp_X8_layMost_153 d b Q y1 y3 y4 y5 y6 (y7 + 1) h) ∧ (¬(zand (zshr y7 y5) 1 = 1) → R32 (256 * y4) ∧ R32 ((256 * y4) + 256) ∧ R32 (((256 * y4) + 256) + y7) ∧ R32 ((((256 * y4) + 256) + y7) + (zshl 1 y5)) ∧ (0 ≤ (((256 * y4) + 256) + y7) + (zshl 1 y5) ∧ (((256 * y4) + 256) + y7) + (zshl 1 y5) < 2304) ∧ R32 (y6 + (gi h 22 ((((256 * y4) + 256) + y7) + (zshl 1 y5)))) ∧ R32 (256 * y4) ∧ R32 ((256 * y4) + y7) ∧ R32 (256 * y4) ∧ R32 ((256 * y4) + y7) ∧ (0 ≤ (256 * y4) + y7 ∧ (256 * y4) + y7 < 2304) ∧ (y6 + (gi h 22 ((((256 * y4) + 256) + y7) + (zshl 1 y5))) ≤ gi h 22 ((256 * y4) + y7) → R32 (256 * y4) ∧ R32 ((256 * y4) + y7) ∧ (0 ≤ (256 * y4) + y7 ∧ (256 * y4) + y7 < 2304) ∧ (0 ≤ (256 * y4) + y7 ∧ (256 * y4) + y7 < 2304) ∧ ∀ h1, h1 = si h 22 ((256 * y4) + y7) (gi h 22 ((256 * y4) + y7)) → R32 (y7 + 1) ∧ Lp_X8_layMost_153 d b Q y1 y3 y4 y5 y6 (y7 + 1) h1) ∧ (¬(y6 + (gi h 22 ((((256 * y4) + 256) + y7) + (zshl 1 y5))) ≤ gi h 22 ((256 * y4) + y7)) → (0 ≤ (256 * y4) + y7 ∧ (256 * y4) + y7 < 2304) ∧ ∀ h2, h2 = si h 22 ((256 * y4) + y7) (y6 + (gi h 22 ((((256 * y4) + 256) + y7) + (zshl 1 y5)))) → R32 (y7 + 1) ∧ Lp_X8_layMost_153 d b Q y1 y3 y4 y5 y6 (y7 + 1) h2))))) : Lp_X8_layMost_153 d b Q y1 y3 y4 y5 y6 y7 h := by
  unfold Lp_X8_layMost_153
  refine J_iload rfl dX8_layMost_153 ?_
  refine J_iconst (by decide) dX8_layMost_155 ?_
  refine J_iload_n rfl dX8_layMost_156 ?_
  refine J_ishl dX8_layMost_157 ?_
  refine J_icmp_ge (tgt := 263) dX8_layMost_158 (by decide) (fun c => ?_) (fun c => ?_)
  · replace K := K.1 c
    refine J_iinc (loc' := [some (vR (some 0)), some (vI y1), none, some (vI y3), some (vI y4), some (vI (y5 + 1)), some (vI y6), some (vI y7), none]) (by decide) rfl K.1 rfl dX8_layMost_263 ?_
    replace K := K.2
    refine J_goto (tgt := 120) dX8_layMost_266 (by decide) ?_
    exact J_forget (loc' := [some (vR (some 0)), some (vI y1), none, some (vI y3), some (vI y4), some (vI (y5 + 1)), none, none, none]) (And.intro (Or.inr rfl) (And.intro (Or.inr rfl) (And.intro (Or.inl rfl) (And.intro (Or.inr rfl) (And.intro (Or.inr rfl) (And.intro (Or.inr rfl) (And.intro (Or.inl rfl) (And.intro (Or.inl rfl) (And.intro (Or.inl rfl) True.intro))))))))) K
  · replace K := K.2 c
    refine J_iload rfl dX8_layMost_161 ?_
    refine J_iconst (by decide) dX8_layMost_163 ?_
    refine J_icmp_eq (tgt := 263) dX8_layMost_164 (by decide) (fun c => ?_) (fun c => ?_)
    · replace K := K.1 c
      refine J_iinc (loc' := [some (vR (some 0)), some (vI y1), none, some (vI y3), some (vI y4), some (vI (y5 + 1)), some (vI y6), some (vI y7), none]) (by decide) rfl K.1 rfl dX8_layMost_263 ?_
      replace K := K.2
      refine J_goto (tgt := 120) dX8_layMost_266 (by decide) ?_
      exact J_forget (loc' := [some (vR (some 0)), some (vI y1), none, some (vI y3), some (vI y4), some (vI (y5 + 1)), none, none, none]) (And.intro (Or.inr rfl) (And.intro (Or.inr rfl) (And.intro (Or.inl rfl) (And.intro (Or.inr rfl) (And.intro (Or.inr rfl) (And.intro (Or.inr rfl) (And.intro (Or.inl rfl) (And.intro (Or.inl rfl) (And.intro (Or.inl rfl) True.intro))))))))) K
    · replace K := K.2 c
      refine J_iload rfl dX8_layMost_167 ?_
      refine J_iload rfl dX8_layMost_169 ?_
      refine J_b0 (J_callS (b1 := 0) (vs := [vI y7, vI y5]) (rest := []) (Or.inl rfl) ml_RX8_471 rfl (by decide) (Nat.le_of_ble_eq_true rfl) rfl dX8_layMost_171 (c_X8_is   ?_))
      show J _ _ _ _ _ _ _ [vI (b2i (zand (zshr y7 y5) 1 = 1))] _
      refine J_if_ne (tgt := 257) dX8_layMost_174 (by decide) (fun c => ?_) (fun c => ?_)
      · replace K := K.1 (b2i_n0.mp c)
        refine J_iinc (loc' := [some (vR (some 0)), some (vI y1), none, some (vI y3), some (vI y4), some (vI y5), some (vI y6), some (vI (y7 + 1)), none]) (by decide) rfl K.1 rfl dX8_layMost_257 ?_
        replace K := K.2
        refine J_goto (tgt := 153) dX8_layMost_260 (by decide) ?_
        exact J_forget (loc' := [some (vR (some 0)), some (vI y1), none, some (vI y3), some (vI y4), some (vI y5), some (vI y6), some (vI (y7 + 1)), none]) (And.intro (Or.inr rfl) (And.intro (Or.inr rfl) (And.intro (Or.inl rfl) (And.intro (Or.inr rfl) (And.intro (Or.inr rfl) (And.intro (Or.inr rfl) (And.intro (Or.inr rfl) (And.intro (Or.inr rfl) (And.intro (Or.inl rfl) True.intro))))))))) K
      · replace K := K.2 (b2i_0.mp c)
        refine J_iload rfl dX8_layMost_177 ?_
        refine J_aload_n rfl dX8_layMost_179 ?_
        refine J_getS (r := 22) fl_RX8_117 rfl (Or.inl rfl) rfl dX8_layMost_180 ?_
        refine J_sipush (by decide) (by decide) dX8_layMost_183 ?_
        refine J_iload rfl dX8_layMost_186 ?_
        refine J_imul K.1 dX8_layMost_188 ?_
        replace K := K.2
        refine J_sipush (by decide) (by decide) dX8_layMost_189 ?_
        refine J_iadd K.1 dX8_layMost_192 ?_
        replace K := K.2
        refine J_iload rfl dX8_layMost_193 ?_
        refine J_iadd K.1 dX8_layMost_195 ?_
        replace K := K.2
        refine J_iconst (by decide) dX8_layMost_196 ?_
        refine J_iload rfl dX8_layMost_197 ?_
        refine J_ishl dX8_layMost_199 ?_
        refine J_iadd K.1 dX8_layMost_200 ?_
        replace K := K.2
        refine J_iaload (Or.inl rfl) K.1 dX8_layMost_201 ?_
        replace K := K.2
        refine J_iadd K.1 dX8_layMost_202 ?_
        replace K := K.2
        refine J_istore (loc' := [some (vR (some 0)), some (vI y1), none, some (vI y3), some (vI y4), some (vI y5), some (vI y6), some (vI y7), some (vI (y6 + (gi h 22 ((((256 * y4) + 256) + y7) + (zshl 1 y5)))))]) (by decide) rfl dX8_layMost_203 ?_
        refine J_aload_n rfl dX8_layMost_205 ?_
        refine J_getS (r := 22) fl_RX8_117 rfl (Or.inl rfl) rfl dX8_layMost_206 ?_
        refine J_sipush (by decide) (by decide) dX8_layMost_209 ?_
        refine J_iload rfl dX8_layMost_212 ?_
        refine J_imul K.1 dX8_layMost_214 ?_
        replace K := K.2
        refine J_iload rfl dX8_layMost_215 ?_
        refine J_iadd K.1 dX8_layMost_217 ?_
        replace K := K.2
        refine J_iload rfl dX8_layMost_218 ?_
        refine J_aload_n rfl dX8_layMost_220 ?_
        refine J_getS (r := 22) fl_RX8_117 rfl (Or.inl rfl) rfl dX8_layMost_221 ?_
        refine J_sipush (by decide) (by decide) dX8_layMost_224 ?_
        refine J_iload rfl dX8_layMost_227 ?_
        refine J_imul K.1 dX8_layMost_229 ?_
        replace K := K.2
        refine J_iload rfl dX8_layMost_230 ?_
        refine J_iadd K.1 dX8_layMost_232 ?_
        replace K := K.2
        refine J_iaload (Or.inl rfl) K.1 dX8_layMost_233 ?_
        replace K := K.2
        refine J_icmp_le (tgt := 242) dX8_layMost_234 (by decide) (fun c => ?_) (fun c => ?_)
        · replace K := K.1 c
          refine J_aload_n rfl dX8_layMost_242 ?_
          refine J_getS (r := 22) fl_RX8_117 rfl (Or.inl rfl) rfl dX8_layMost_243 ?_
          refine J_sipush (by decide) (by decide) dX8_layMost_246 ?_
          refine J_iload rfl dX8_layMost_249 ?_
          refine J_imul K.1 dX8_layMost_251 ?_
          replace K := K.2
          refine J_iload rfl dX8_layMost_252 ?_
          refine J_iadd K.1 dX8_layMost_254 ?_
          replace K := K.2
          refine J_iaload (Or.inl rfl) K.1 dX8_layMost_255 ?_
          replace K := K.2
          refine J_iastore (Or.inl rfl) K.1 dX8_layMost_256 ?_
          replace K := K.2
          replace K := K _ rfl
          refine J_iinc (loc' := [some (vR (some 0)), some (vI y1), none, some (vI y3), some (vI y4), some (vI y5), some (vI y6), some (vI (y7 + 1)), some (vI (y6 + (gi h 22 ((((256 * y4) + 256) + y7) + (zshl 1 y5)))))]) (by decide) rfl K.1 rfl dX8_layMost_257 ?_
          replace K := K.2
          refine J_goto (tgt := 153) dX8_layMost_260 (by decide) ?_
          exact J_forget (loc' := [some (vR (some 0)), some (vI y1), none, some (vI y3), some (vI y4), some (vI y5), some (vI y6), some (vI (y7 + 1)), none]) (And.intro (Or.inr rfl) (And.intro (Or.inr rfl) (And.intro (Or.inl rfl) (And.intro (Or.inr rfl) (And.intro (Or.inr rfl) (And.intro (Or.inr rfl) (And.intro (Or.inr rfl) (And.intro (Or.inr rfl) (And.intro (Or.inl rfl) True.intro))))))))) K
        · replace K := K.2 c
          refine J_iload rfl dX8_layMost_237 ?_
          refine J_goto (tgt := 256) dX8_layMost_239 (by decide) ?_
          refine J_iastore (Or.inl rfl) K.1 dX8_layMost_256 ?_
          replace K := K.2
          replace K := K _ rfl
          refine J_iinc (loc' := [some (vR (some 0)), some (vI y1), none, some (vI y3), some (vI y4), some (vI y5), some (vI y6), some (vI (y7 + 1)), some (vI (y6 + (gi h 22 ((((256 * y4) + 256) + y7) + (zshl 1 y5)))))]) (by decide) rfl K.1 rfl dX8_layMost_257 ?_
          replace K := K.2
          refine J_goto (tgt := 153) dX8_layMost_260 (by decide) ?_
          exact J_forget (loc' := [some (vR (some 0)), some (vI y1), none, some (vI y3), some (vI y4), some (vI y5), some (vI y6), some (vI (y7 + 1)), none]) (And.intro (Or.inr rfl) (And.intro (Or.inr rfl) (And.intro (Or.inl rfl) (And.intro (Or.inr rfl) (And.intro (Or.inr rfl) (And.intro (Or.inr rfl) (And.intro (Or.inr rfl) (And.intro (Or.inr rfl) (And.intro (Or.inl rfl) True.intro))))))))) K
set_option maxRecDepth 20000 in
set_option maxHeartbeats 2000000 in
theorem w_X8_layMost {d b : Nat} {Q : Option AV → AH → Prop} {h : AH} {x1 : Int}  (K : (x1 = 0 → Lp_X8_layMost_30 d b Q x1 (gi h 2 1) (gi h 2 0) 0 h) ∧ (¬(x1 = 0) → Lp_X8_layMost_30 d b Q x1 (gi h 2 1) (gi h 2 2) 0 h)) : WM GM (d + 7) b mX8_layMost [vR (some 0), vI x1] h Q := by
  refine WM_introE (loc' := [some (vR (some 0)), some (vI x1), none, none, none, none, none, none, none]) rfl (by decide) (Nat.le_of_ble_eq_true rfl) ?_
  refine J_aload_n rfl dX8_layMost_0 ?_
  refine J_getS (r := 2) fl_RX8_13 rfl (Or.inl rfl) rfl dX8_layMost_1 ?_
  refine J_iconst (by decide) dX8_layMost_4 ?_
  refine J_iaload (Or.inl rfl) (by decide) dX8_layMost_5 ?_
  refine J_istore_n (loc' := [some (vR (some 0)), some (vI x1), some (vI (gi h 2 1)), none, none, none, none, none, none]) (by decide) rfl dX8_layMost_6 ?_
  refine J_iload_n rfl dX8_layMost_7 ?_
  refine J_if_eq (tgt := 20) dX8_layMost_8 (by decide) (fun c => ?_) (fun c => ?_)
  · replace K := K.1 c
    refine J_aload_n rfl dX8_layMost_20 ?_
    refine J_getS (r := 2) fl_RX8_13 rfl (Or.inl rfl) rfl dX8_layMost_21 ?_
    refine J_iconst (by decide) dX8_layMost_24 ?_
    refine J_iaload (Or.inl rfl) (by decide) dX8_layMost_25 ?_
    refine J_istore_n (loc' := [some (vR (some 0)), some (vI x1), some (vI (gi h 2 1)), some (vI (gi h 2 0)), none, none, none, none, none]) (by decide) rfl dX8_layMost_26 ?_
    refine J_iconst (by decide) dX8_layMost_27 ?_
    refine J_istore (loc' := [some (vR (some 0)), some (vI x1), some (vI (gi h 2 1)), some (vI (gi h 2 0)), some (vI 0), none, none, none, none]) (by decide) rfl dX8_layMost_28 ?_
    exact J_forget (loc' := [some (vR (some 0)), some (vI x1), some (vI (gi h 2 1)), some (vI (gi h 2 0)), some (vI 0), none, none, none, none]) (And.intro (Or.inr rfl) (And.intro (Or.inr rfl) (And.intro (Or.inr rfl) (And.intro (Or.inr rfl) (And.intro (Or.inr rfl) (And.intro (Or.inl rfl) (And.intro (Or.inl rfl) (And.intro (Or.inl rfl) (And.intro (Or.inl rfl) True.intro))))))))) K
  · replace K := K.2 c
    refine J_aload_n rfl dX8_layMost_11 ?_
    refine J_getS (r := 2) fl_RX8_13 rfl (Or.inl rfl) rfl dX8_layMost_12 ?_
    refine J_iconst (by decide) dX8_layMost_15 ?_
    refine J_iaload (Or.inl rfl) (by decide) dX8_layMost_16 ?_
    refine J_goto (tgt := 26) dX8_layMost_17 (by decide) ?_
    refine J_istore_n (loc' := [some (vR (some 0)), some (vI x1), some (vI (gi h 2 1)), some (vI (gi h 2 2)), none, none, none, none, none]) (by decide) rfl dX8_layMost_26 ?_
    refine J_iconst (by decide) dX8_layMost_27 ?_
    refine J_istore (loc' := [some (vR (some 0)), some (vI x1), some (vI (gi h 2 1)), some (vI (gi h 2 2)), some (vI 0), none, none, none, none]) (by decide) rfl dX8_layMost_28 ?_
    exact J_forget (loc' := [some (vR (some 0)), some (vI x1), some (vI (gi h 2 1)), some (vI (gi h 2 2)), some (vI 0), none, none, none, none]) (And.intro (Or.inr rfl) (And.intro (Or.inr rfl) (And.intro (Or.inr rfl) (And.intro (Or.inr rfl) (And.intro (Or.inr rfl) (And.intro (Or.inl rfl) (And.intro (Or.inl rfl) (And.intro (Or.inl rfl) (And.intro (Or.inl rfl) True.intro))))))))) K
def Lp_X8_rowAt_30 (d b : Nat) (Q : Option AV → AH → Prop)  (y1 : Int) (y2 : Int) (y3 : Int) (y4 : Int) (y5 : Int) (y6 : Int) (h : AH) : Prop := J GM (d + 7) b mX8_rowAt Q 30 [some (vR (some 0)), some (vI y1), some (vI y2), some (vI y3), some (vI y4), some (vI y5), some (vI y6), none, none] [] h
def Lp_X8_rowAt_45 (d b : Nat) (Q : Option AV → AH → Prop)  (y1 : Int) (y2 : Int) (y3 : Int) (y4 : Int) (y5 : Int) (y6 : Int) (y7 : Int) (h : AH) : Prop := J GM (d + 7) b mX8_rowAt Q 45 [some (vR (some 0)), some (vI y1), some (vI y2), some (vI y3), some (vI y4), some (vI y5), some (vI y6), some (vI y7), none] [] h
set_option maxRecDepth 20000 in
set_option maxHeartbeats 2000000 in
theorem l_X8_rowAt_30 {d b : Nat} {Q : Option AV → AH → Prop} {h : AH}  {y1 : Int} {y2 : Int} {y3 : Int} {y4 : Int} {y5 : Int} {y6 : Int}  (K : (y2 < y6 → Q (some (vI y5)) h) ∧ (¬(y2 < y6) → R32 (y3 - 1) ∧ Lp_X8_rowAt_45 d b Q y1 y2 y3 y4 100 y6 (y3 - 1) h)) : Lp_X8_rowAt_30 d b Q y1 y2 y3 y4 y5 y6 h := by
  unfold Lp_X8_rowAt_30
  refine J_iload rfl dX8_rowAt_30 ?_
  refine J_iload_n rfl dX8_rowAt_32 ?_
  refine J_icmp_gt (tgt := 178) dX8_rowAt_33 (by decide) (fun c => ?_) (fun c => ?_)
  · replace K := K.1 c
    refine J_iload rfl dX8_rowAt_178 ?_
    exact J_ireturn rfl dX8_rowAt_180 K
  · replace K := K.2 c
    refine J_bipush (by decide) (by decide) dX8_rowAt_36 ?_
    refine J_istore (loc' := [some (vR (some 0)), some (vI y1), some (vI y2), some (vI y3), some (vI y4), some (vI 100), some (vI y6), none, none]) (by decide) rfl dX8_rowAt_38 ?_
    refine J_iload_n rfl dX8_rowAt_40 ?_
    refine J_iconst (by decide) dX8_rowAt_41 ?_
    refine J_isub K.1 dX8_rowAt_42 ?_
    replace K := K.2
    refine J_istore (loc' := [some (vR (some 0)), some (vI y1), some (vI y2), some (vI y3), some (vI y4), some (vI 100), some (vI y6), some (vI (y3 - 1)), none]) (by decide) rfl dX8_rowAt_43 ?_
    exact J_forget (loc' := [some (vR (some 0)), some (vI y1), some (vI y2), some (vI y3), some (vI y4), some (vI 100), some (vI y6), some (vI (y3 - 1)), none]) (And.intro (Or.inr rfl) (And.intro (Or.inr rfl) (And.intro (Or.inr rfl) (And.intro (Or.inr rfl) (And.intro (Or.inr rfl) (And.intro (Or.inr rfl) (And.intro (Or.inr rfl) (And.intro (Or.inr rfl) (And.intro (Or.inl rfl) True.intro))))))))) K
set_option maxRecDepth 20000 in
set_option maxHeartbeats 2000000 in
theorem l_X8_rowAt_45 {d b : Nat} {Q : Option AV → AH → Prop} {h : AH}  {y1 : Int} {y2 : Int} {y3 : Int} {y4 : Int} {y5 : Int} {y6 : Int} {y7 : Int}  (K : (y7 < 0 → (y5 = 100 → R32 (y4 + 0) ∧ R32 (y6 + 1) ∧ Lp_X8_rowAt_30 d b Q y1 y2 y3 (y4 + 0) y5 (y6 + 1) h) ∧ (¬(y5 = 100) → R32 (y4 + (zshl 1 y5)) ∧ R32 (y6 + 1) ∧ Lp_X8_rowAt_30 d b Q y1 y2 y3 (y4 + (zshl 1 y5)) y5 (y6 + 1) h)) ∧ (¬(y7 < 0) → R32 (31 + y6) ∧ (0 ≤ 31 + y6 ∧ 31 + y6 < 5540) ∧ (gi h 2 (31 + y6) = 0 → (zand (zshr y4 y7) 1 = 1 → R32 (y7 + (-1)) ∧ Lp_X8_rowAt_45 d b Q y1 y2 y3 y4 y5 y6 (y7 + (-1)) h) ∧ (¬(zand (zshr y4 y7) 1 = 1) → WM GM (d + 6) 0 mX8_worthOf [vR (some 0), vI y1, vI y6, vI y7] h (fun r h1 => ∃ u1, r = some (vI u1) ∧ (u1 = (-1) → R32 (y7 + (-1)) ∧ Lp_X8_rowAt_45 d b Q y1 y2 y3 y4 y5 y6 (y7 + (-1)) h1) ∧ (¬(u1 = (-1)) → R32 (256 * y6) ∧ R32 ((256 * y6) + 256) ∧ R32 (((256 * y6) + 256) + y4) ∧ R32 ((((256 * y6) + 256) + y4) + (zshl 1 y7)) ∧ (0 ≤ (((256 * y6) + 256) + y4) + (zshl 1 y7) ∧ (((256 * y6) + 256) + y4) + (zshl 1 y7) < 2304) ∧ R32 (u1 + (gi h1 22 ((((256 * y6) + 256) + y4) + (zshl 1 y7)))) ∧ R32 (256 * y6) ∧ R32 ((256 * y6) + y4) ∧ (0 ≤ (256 * y6) + y4 ∧ (256 * y6) + y4 < 2304) ∧ (u1 + (gi h1 22 ((((256 * y6) + 256) + y4) + (zshl 1 y7))) = gi h1 22 ((256 * y6) + y4) → R32 (y7 + (-1)) ∧ Lp_X8_rowAt_45 d b Q y1 y2 y3 y4 y7 y6 (y7 + (-1)) h1) ∧ (¬(u1 + (gi h1 22 ((((256 * y6) + 256) + y4) + (zshl 1 y7))) = gi h1 22 ((256 * y6) + y4)) → R32 (y7 + (-1)) ∧ Lp_X8_rowAt_45 d b Q y1 y2 y3 y4 y5 y6 (y7 + (-1)) h1))))) ∧ (¬(gi h 2 (31 + y6) = 0) → (y5 = 100 → R32 (y4 + 0) ∧ R32 (y6 + 1) ∧ Lp_X8_rowAt_30 d b Q y1 y2 y3 (y4 + 0) y5 (y6 + 1) h) ∧ (¬(y5 = 100) → R32 (y4 + (zshl 1 y5)) ∧ R32 (y6 + 1) ∧ Lp_X8_rowAt_30 d b Q y1 y2 y3 (y4 + (zshl 1 y5)) y5 (y6 + 1) h)))) : Lp_X8_rowAt_45 d b Q y1 y2 y3 y4 y5 y6 y7 h := by
  unfold Lp_X8_rowAt_45
  refine J_iload rfl dX8_rowAt_45 ?_
  refine J_if_lt (tgt := 152) dX8_rowAt_47 (by decide) (fun c => ?_) (fun c => ?_)
  · replace K := K.1 c
    refine J_iload rfl dX8_rowAt_152 ?_
    refine J_iload rfl dX8_rowAt_154 ?_
    refine J_bipush (by decide) (by decide) dX8_rowAt_156 ?_
    refine J_icmp_ne (tgt := 165) dX8_rowAt_158 (by decide) (fun c => ?_) (fun c => ?_)
    · replace K := K.2 c
      refine J_iconst (by decide) dX8_rowAt_165 ?_
      refine J_iload rfl dX8_rowAt_166 ?_
      refine J_ishl dX8_rowAt_168 ?_
      refine J_iadd K.1 dX8_rowAt_169 ?_
      replace K := K.2
      refine J_istore (loc' := [some (vR (some 0)), some (vI y1), some (vI y2), some (vI y3), some (vI (y4 + (zshl 1 y5))), some (vI y5), some (vI y6), some (vI y7), none]) (by decide) rfl dX8_rowAt_170 ?_
      refine J_iinc (loc' := [some (vR (some 0)), some (vI y1), some (vI y2), some (vI y3), some (vI (y4 + (zshl 1 y5))), some (vI y5), some (vI (y6 + 1)), some (vI y7), none]) (by decide) rfl K.1 rfl dX8_rowAt_172 ?_
      replace K := K.2
      refine J_goto (tgt := 30) dX8_rowAt_175 (by decide) ?_
      exact J_forget (loc' := [some (vR (some 0)), some (vI y1), some (vI y2), some (vI y3), some (vI (y4 + (zshl 1 y5))), some (vI y5), some (vI (y6 + 1)), none, none]) (And.intro (Or.inr rfl) (And.intro (Or.inr rfl) (And.intro (Or.inr rfl) (And.intro (Or.inr rfl) (And.intro (Or.inr rfl) (And.intro (Or.inr rfl) (And.intro (Or.inr rfl) (And.intro (Or.inl rfl) (And.intro (Or.inl rfl) True.intro))))))))) K
    · replace K := K.1 c
      refine J_iconst (by decide) dX8_rowAt_161 ?_
      refine J_goto (tgt := 169) dX8_rowAt_162 (by decide) ?_
      refine J_iadd K.1 dX8_rowAt_169 ?_
      replace K := K.2
      refine J_istore (loc' := [some (vR (some 0)), some (vI y1), some (vI y2), some (vI y3), some (vI (y4 + 0)), some (vI y5), some (vI y6), some (vI y7), none]) (by decide) rfl dX8_rowAt_170 ?_
      refine J_iinc (loc' := [some (vR (some 0)), some (vI y1), some (vI y2), some (vI y3), some (vI (y4 + 0)), some (vI y5), some (vI (y6 + 1)), some (vI y7), none]) (by decide) rfl K.1 rfl dX8_rowAt_172 ?_
      replace K := K.2
      refine J_goto (tgt := 30) dX8_rowAt_175 (by decide) ?_
      exact J_forget (loc' := [some (vR (some 0)), some (vI y1), some (vI y2), some (vI y3), some (vI (y4 + 0)), some (vI y5), some (vI (y6 + 1)), none, none]) (And.intro (Or.inr rfl) (And.intro (Or.inr rfl) (And.intro (Or.inr rfl) (And.intro (Or.inr rfl) (And.intro (Or.inr rfl) (And.intro (Or.inr rfl) (And.intro (Or.inr rfl) (And.intro (Or.inl rfl) (And.intro (Or.inl rfl) True.intro))))))))) K
  · replace K := K.2 c
    refine J_aload_n rfl dX8_rowAt_50 ?_
    refine J_getS (r := 2) fl_RX8_13 rfl (Or.inl rfl) rfl dX8_rowAt_51 ?_
    refine J_bipush (by decide) (by decide) dX8_rowAt_54 ?_
    refine J_iload rfl dX8_rowAt_56 ?_
    refine J_iadd K.1 dX8_rowAt_58 ?_
    replace K := K.2
    refine J_iaload (Or.inl rfl) K.1 dX8_rowAt_59 ?_
    replace K := K.2
    refine J_if_ne (tgt := 152) dX8_rowAt_60 (by decide) (fun c => ?_) (fun c => ?_)
    · replace K := K.2 c
      refine J_iload rfl dX8_rowAt_152 ?_
      refine J_iload rfl dX8_rowAt_154 ?_
      refine J_bipush (by decide) (by decide) dX8_rowAt_156 ?_
      refine J_icmp_ne (tgt := 165) dX8_rowAt_158 (by decide) (fun c => ?_) (fun c => ?_)
      · replace K := K.2 c
        refine J_iconst (by decide) dX8_rowAt_165 ?_
        refine J_iload rfl dX8_rowAt_166 ?_
        refine J_ishl dX8_rowAt_168 ?_
        refine J_iadd K.1 dX8_rowAt_169 ?_
        replace K := K.2
        refine J_istore (loc' := [some (vR (some 0)), some (vI y1), some (vI y2), some (vI y3), some (vI (y4 + (zshl 1 y5))), some (vI y5), some (vI y6), some (vI y7), none]) (by decide) rfl dX8_rowAt_170 ?_
        refine J_iinc (loc' := [some (vR (some 0)), some (vI y1), some (vI y2), some (vI y3), some (vI (y4 + (zshl 1 y5))), some (vI y5), some (vI (y6 + 1)), some (vI y7), none]) (by decide) rfl K.1 rfl dX8_rowAt_172 ?_
        replace K := K.2
        refine J_goto (tgt := 30) dX8_rowAt_175 (by decide) ?_
        exact J_forget (loc' := [some (vR (some 0)), some (vI y1), some (vI y2), some (vI y3), some (vI (y4 + (zshl 1 y5))), some (vI y5), some (vI (y6 + 1)), none, none]) (And.intro (Or.inr rfl) (And.intro (Or.inr rfl) (And.intro (Or.inr rfl) (And.intro (Or.inr rfl) (And.intro (Or.inr rfl) (And.intro (Or.inr rfl) (And.intro (Or.inr rfl) (And.intro (Or.inl rfl) (And.intro (Or.inl rfl) True.intro))))))))) K
      · replace K := K.1 c
        refine J_iconst (by decide) dX8_rowAt_161 ?_
        refine J_goto (tgt := 169) dX8_rowAt_162 (by decide) ?_
        refine J_iadd K.1 dX8_rowAt_169 ?_
        replace K := K.2
        refine J_istore (loc' := [some (vR (some 0)), some (vI y1), some (vI y2), some (vI y3), some (vI (y4 + 0)), some (vI y5), some (vI y6), some (vI y7), none]) (by decide) rfl dX8_rowAt_170 ?_
        refine J_iinc (loc' := [some (vR (some 0)), some (vI y1), some (vI y2), some (vI y3), some (vI (y4 + 0)), some (vI y5), some (vI (y6 + 1)), some (vI y7), none]) (by decide) rfl K.1 rfl dX8_rowAt_172 ?_
        replace K := K.2
        refine J_goto (tgt := 30) dX8_rowAt_175 (by decide) ?_
        exact J_forget (loc' := [some (vR (some 0)), some (vI y1), some (vI y2), some (vI y3), some (vI (y4 + 0)), some (vI y5), some (vI (y6 + 1)), none, none]) (And.intro (Or.inr rfl) (And.intro (Or.inr rfl) (And.intro (Or.inr rfl) (And.intro (Or.inr rfl) (And.intro (Or.inr rfl) (And.intro (Or.inr rfl) (And.intro (Or.inr rfl) (And.intro (Or.inl rfl) (And.intro (Or.inl rfl) True.intro))))))))) K
    · replace K := K.1 c
      refine J_iload rfl dX8_rowAt_63 ?_
      refine J_iload rfl dX8_rowAt_65 ?_
      refine J_b0 (J_callS (b1 := 0) (vs := [vI y4, vI y7]) (rest := []) (Or.inl rfl) ml_RX8_471 rfl (by decide) (Nat.le_of_ble_eq_true rfl) rfl dX8_rowAt_67 (c_X8_is   ?_))
      show J _ _ _ _ _ _ _ [vI (b2i (zand (zshr y4 y7) 1 = 1))] _
      refine J_if_eq (tgt := 77) dX8_rowAt_70 (by decide) (fun c => ?_) (fun c => ?_)
      · replace K := K.2 (b2i_0.mp c)
        refine J_aload_n rfl dX8_rowAt_77 ?_
        refine J_iload_n rfl dX8_rowAt_78 ?_
        refine J_iload rfl dX8_rowAt_79 ?_
        refine J_iload rfl dX8_rowAt_81 ?_
        refine J_b0 (J_callV (b1 := 0) (ci := 8) (vs := [vI y1, vI y6, vI y7]) (rest := []) (Or.inl rfl) ml_RX8_477 rfl (by decide) rfl rfl (Or.inl rfl) (Nat.le_of_ble_eq_true rfl) rfl dX8_rowAt_83 (WM_mono K (fun r h1 K => ?_)))
        obtain ⟨u1, rfl, K⟩ := K
        show J _ _ _ _ _ _ _ [vI u1] _
        refine J_istore (loc' := [some (vR (some 0)), some (vI y1), some (vI y2), some (vI y3), some (vI y4), some (vI y5), some (vI y6), some (vI y7), some (vI u1)]) (by decide) rfl dX8_rowAt_86 ?_
        refine J_iload rfl dX8_rowAt_88 ?_
        refine J_iconst (by decide) dX8_rowAt_90 ?_
        refine J_icmp_eq (tgt := 142) dX8_rowAt_91 (by decide) (fun c => ?_) (fun c => ?_)
        · replace K := K.1 c
          refine J_iload rfl dX8_rowAt_142 ?_
          refine J_istore (loc' := [some (vR (some 0)), some (vI y1), some (vI y2), some (vI y3), some (vI y4), some (vI y5), some (vI y6), some (vI y7), some (vI u1)]) (by decide) rfl dX8_rowAt_144 ?_
          refine J_iinc (loc' := [some (vR (some 0)), some (vI y1), some (vI y2), some (vI y3), some (vI y4), some (vI y5), some (vI y6), some (vI (y7 + (-1))), some (vI u1)]) (by decide) rfl K.1 rfl dX8_rowAt_146 ?_
          replace K := K.2
          refine J_goto (tgt := 45) dX8_rowAt_149 (by decide) ?_
          exact J_forget (loc' := [some (vR (some 0)), some (vI y1), some (vI y2), some (vI y3), some (vI y4), some (vI y5), some (vI y6), some (vI (y7 + (-1))), none]) (And.intro (Or.inr rfl) (And.intro (Or.inr rfl) (And.intro (Or.inr rfl) (And.intro (Or.inr rfl) (And.intro (Or.inr rfl) (And.intro (Or.inr rfl) (And.intro (Or.inr rfl) (And.intro (Or.inr rfl) (And.intro (Or.inl rfl) True.intro))))))))) K
        · replace K := K.2 c
          refine J_iload rfl dX8_rowAt_94 ?_
          refine J_aload_n rfl dX8_rowAt_96 ?_
          refine J_getS (r := 22) fl_RX8_117 rfl (Or.inl rfl) rfl dX8_rowAt_97 ?_
          refine J_sipush (by decide) (by decide) dX8_rowAt_100 ?_
          refine J_iload rfl dX8_rowAt_103 ?_
          refine J_imul K.1 dX8_rowAt_105 ?_
          replace K := K.2
          refine J_sipush (by decide) (by decide) dX8_rowAt_106 ?_
          refine J_iadd K.1 dX8_rowAt_109 ?_
          replace K := K.2
          refine J_iload rfl dX8_rowAt_110 ?_
          refine J_iadd K.1 dX8_rowAt_112 ?_
          replace K := K.2
          refine J_iconst (by decide) dX8_rowAt_113 ?_
          refine J_iload rfl dX8_rowAt_114 ?_
          refine J_ishl dX8_rowAt_116 ?_
          refine J_iadd K.1 dX8_rowAt_117 ?_
          replace K := K.2
          refine J_iaload (Or.inl rfl) K.1 dX8_rowAt_118 ?_
          replace K := K.2
          refine J_iadd K.1 dX8_rowAt_119 ?_
          replace K := K.2
          refine J_aload_n rfl dX8_rowAt_120 ?_
          refine J_getS (r := 22) fl_RX8_117 rfl (Or.inl rfl) rfl dX8_rowAt_121 ?_
          refine J_sipush (by decide) (by decide) dX8_rowAt_124 ?_
          refine J_iload rfl dX8_rowAt_127 ?_
          refine J_imul K.1 dX8_rowAt_129 ?_
          replace K := K.2
          refine J_iload rfl dX8_rowAt_130 ?_
          refine J_iadd K.1 dX8_rowAt_132 ?_
          replace K := K.2
          refine J_iaload (Or.inl rfl) K.1 dX8_rowAt_133 ?_
          replace K := K.2
          refine J_icmp_ne (tgt := 142) dX8_rowAt_134 (by decide) (fun c => ?_) (fun c => ?_)
          · replace K := K.2 c
            refine J_iload rfl dX8_rowAt_142 ?_
            refine J_istore (loc' := [some (vR (some 0)), some (vI y1), some (vI y2), some (vI y3), some (vI y4), some (vI y5), some (vI y6), some (vI y7), some (vI u1)]) (by decide) rfl dX8_rowAt_144 ?_
            refine J_iinc (loc' := [some (vR (some 0)), some (vI y1), some (vI y2), some (vI y3), some (vI y4), some (vI y5), some (vI y6), some (vI (y7 + (-1))), some (vI u1)]) (by decide) rfl K.1 rfl dX8_rowAt_146 ?_
            replace K := K.2
            refine J_goto (tgt := 45) dX8_rowAt_149 (by decide) ?_
            exact J_forget (loc' := [some (vR (some 0)), some (vI y1), some (vI y2), some (vI y3), some (vI y4), some (vI y5), some (vI y6), some (vI (y7 + (-1))), none]) (And.intro (Or.inr rfl) (And.intro (Or.inr rfl) (And.intro (Or.inr rfl) (And.intro (Or.inr rfl) (And.intro (Or.inr rfl) (And.intro (Or.inr rfl) (And.intro (Or.inr rfl) (And.intro (Or.inr rfl) (And.intro (Or.inl rfl) True.intro))))))))) K
          · replace K := K.1 c
            refine J_iload rfl dX8_rowAt_137 ?_
            refine J_goto (tgt := 144) dX8_rowAt_139 (by decide) ?_
            refine J_istore (loc' := [some (vR (some 0)), some (vI y1), some (vI y2), some (vI y3), some (vI y4), some (vI y7), some (vI y6), some (vI y7), some (vI u1)]) (by decide) rfl dX8_rowAt_144 ?_
            refine J_iinc (loc' := [some (vR (some 0)), some (vI y1), some (vI y2), some (vI y3), some (vI y4), some (vI y7), some (vI y6), some (vI (y7 + (-1))), some (vI u1)]) (by decide) rfl K.1 rfl dX8_rowAt_146 ?_
            replace K := K.2
            refine J_goto (tgt := 45) dX8_rowAt_149 (by decide) ?_
            exact J_forget (loc' := [some (vR (some 0)), some (vI y1), some (vI y2), some (vI y3), some (vI y4), some (vI y7), some (vI y6), some (vI (y7 + (-1))), none]) (And.intro (Or.inr rfl) (And.intro (Or.inr rfl) (And.intro (Or.inr rfl) (And.intro (Or.inr rfl) (And.intro (Or.inr rfl) (And.intro (Or.inr rfl) (And.intro (Or.inr rfl) (And.intro (Or.inr rfl) (And.intro (Or.inl rfl) True.intro))))))))) K
      · replace K := K.1 (b2i_n0.mp c)
        refine J_iconst (by decide) dX8_rowAt_73 ?_
        refine J_goto (tgt := 86) dX8_rowAt_74 (by decide) ?_
        refine J_istore (loc' := [some (vR (some 0)), some (vI y1), some (vI y2), some (vI y3), some (vI y4), some (vI y5), some (vI y6), some (vI y7), some (vI (-1))]) (by decide) rfl dX8_rowAt_86 ?_
        refine J_iload rfl dX8_rowAt_88 ?_
        refine J_iconst (by decide) dX8_rowAt_90 ?_
        refine J_icmp_eq (tgt := 142) dX8_rowAt_91 (by decide) (fun _ => ?_) (fun c => absurd c (by decide))
        refine J_iload rfl dX8_rowAt_142 ?_
        refine J_istore (loc' := [some (vR (some 0)), some (vI y1), some (vI y2), some (vI y3), some (vI y4), some (vI y5), some (vI y6), some (vI y7), some (vI (-1))]) (by decide) rfl dX8_rowAt_144 ?_
        refine J_iinc (loc' := [some (vR (some 0)), some (vI y1), some (vI y2), some (vI y3), some (vI y4), some (vI y5), some (vI y6), some (vI (y7 + (-1))), some (vI (-1))]) (by decide) rfl K.1 rfl dX8_rowAt_146 ?_
        replace K := K.2
        refine J_goto (tgt := 45) dX8_rowAt_149 (by decide) ?_
        exact J_forget (loc' := [some (vR (some 0)), some (vI y1), some (vI y2), some (vI y3), some (vI y4), some (vI y5), some (vI y6), some (vI (y7 + (-1))), none]) (And.intro (Or.inr rfl) (And.intro (Or.inr rfl) (And.intro (Or.inr rfl) (And.intro (Or.inr rfl) (And.intro (Or.inr rfl) (And.intro (Or.inr rfl) (And.intro (Or.inr rfl) (And.intro (Or.inr rfl) (And.intro (Or.inl rfl) True.intro))))))))) K
set_option maxRecDepth 20000 in
set_option maxHeartbeats 2000000 in
theorem w_X8_rowAt {d b : Nat} {Q : Option AV → AH → Prop} {h : AH} {x1 : Int} {x2 : Int}  (K : (x1 = 0 → Lp_X8_rowAt_30 d b Q x1 x2 (gi h 2 0) 0 100 0 h) ∧ (¬(x1 = 0) → Lp_X8_rowAt_30 d b Q x1 x2 (gi h 2 2) 0 100 0 h)) : WM GM (d + 7) b mX8_rowAt [vR (some 0), vI x1, vI x2] h Q := by
  refine WM_introE (loc' := [some (vR (some 0)), some (vI x1), some (vI x2), none, none, none, none, none, none]) rfl (by decide) (Nat.le_of_ble_eq_true rfl) ?_
  refine J_iload_n rfl dX8_rowAt_0 ?_
  refine J_if_eq (tgt := 13) dX8_rowAt_1 (by decide) (fun c => ?_) (fun c => ?_)
  · replace K := K.1 c
    refine J_aload_n rfl dX8_rowAt_13 ?_
    refine J_getS (r := 2) fl_RX8_13 rfl (Or.inl rfl) rfl dX8_rowAt_14 ?_
    refine J_iconst (by decide) dX8_rowAt_17 ?_
    refine J_iaload (Or.inl rfl) (by decide) dX8_rowAt_18 ?_
    refine J_istore_n (loc' := [some (vR (some 0)), some (vI x1), some (vI x2), some (vI (gi h 2 0)), none, none, none, none, none]) (by decide) rfl dX8_rowAt_19 ?_
    refine J_iconst (by decide) dX8_rowAt_20 ?_
    refine J_istore (loc' := [some (vR (some 0)), some (vI x1), some (vI x2), some (vI (gi h 2 0)), some (vI 0), none, none, none, none]) (by decide) rfl dX8_rowAt_21 ?_
    refine J_bipush (by decide) (by decide) dX8_rowAt_23 ?_
    refine J_istore (loc' := [some (vR (some 0)), some (vI x1), some (vI x2), some (vI (gi h 2 0)), some (vI 0), some (vI 100), none, none, none]) (by decide) rfl dX8_rowAt_25 ?_
    refine J_iconst (by decide) dX8_rowAt_27 ?_
    refine J_istore (loc' := [some (vR (some 0)), some (vI x1), some (vI x2), some (vI (gi h 2 0)), some (vI 0), some (vI 100), some (vI 0), none, none]) (by decide) rfl dX8_rowAt_28 ?_
    exact J_forget (loc' := [some (vR (some 0)), some (vI x1), some (vI x2), some (vI (gi h 2 0)), some (vI 0), some (vI 100), some (vI 0), none, none]) (And.intro (Or.inr rfl) (And.intro (Or.inr rfl) (And.intro (Or.inr rfl) (And.intro (Or.inr rfl) (And.intro (Or.inr rfl) (And.intro (Or.inr rfl) (And.intro (Or.inr rfl) (And.intro (Or.inl rfl) (And.intro (Or.inl rfl) True.intro))))))))) K
  · replace K := K.2 c
    refine J_aload_n rfl dX8_rowAt_4 ?_
    refine J_getS (r := 2) fl_RX8_13 rfl (Or.inl rfl) rfl dX8_rowAt_5 ?_
    refine J_iconst (by decide) dX8_rowAt_8 ?_
    refine J_iaload (Or.inl rfl) (by decide) dX8_rowAt_9 ?_
    refine J_goto (tgt := 19) dX8_rowAt_10 (by decide) ?_
    refine J_istore_n (loc' := [some (vR (some 0)), some (vI x1), some (vI x2), some (vI (gi h 2 2)), none, none, none, none, none]) (by decide) rfl dX8_rowAt_19 ?_
    refine J_iconst (by decide) dX8_rowAt_20 ?_
    refine J_istore (loc' := [some (vR (some 0)), some (vI x1), some (vI x2), some (vI (gi h 2 2)), some (vI 0), none, none, none, none]) (by decide) rfl dX8_rowAt_21 ?_
    refine J_bipush (by decide) (by decide) dX8_rowAt_23 ?_
    refine J_istore (loc' := [some (vR (some 0)), some (vI x1), some (vI x2), some (vI (gi h 2 2)), some (vI 0), some (vI 100), none, none, none]) (by decide) rfl dX8_rowAt_25 ?_
    refine J_iconst (by decide) dX8_rowAt_27 ?_
    refine J_istore (loc' := [some (vR (some 0)), some (vI x1), some (vI x2), some (vI (gi h 2 2)), some (vI 0), some (vI 100), some (vI 0), none, none]) (by decide) rfl dX8_rowAt_28 ?_
    exact J_forget (loc' := [some (vR (some 0)), some (vI x1), some (vI x2), some (vI (gi h 2 2)), some (vI 0), some (vI 100), some (vI 0), none, none]) (And.intro (Or.inr rfl) (And.intro (Or.inr rfl) (And.intro (Or.inr rfl) (And.intro (Or.inr rfl) (And.intro (Or.inr rfl) (And.intro (Or.inr rfl) (And.intro (Or.inr rfl) (And.intro (Or.inl rfl) (And.intro (Or.inl rfl) True.intro))))))))) K
set_option maxRecDepth 20000 in
set_option maxHeartbeats 2000000 in
theorem w_X8_hanging {d b : Nat} {Q : Option AV → AH → Prop} {h : AH} {x1 : Int}  (K : R32 x1 → ∀ h1, h1 = si h 0 0 0 → (x1 < 0 → Q (some (vI (-1))) h1) ∧ (¬(x1 < 0) → (x1 ≤ 1 → WM GM (d + 7) 0 mX8_layMost [vR (some 0), vI 0] h1 (fun r h2 => r = none ∧ (x1 = 0 → R32 (Int.tdiv (gi h2 22 0) 16) ∧ Q (some (vI (Int.tdiv (gi h2 22 0) 16))) h2) ∧ (¬(x1 = 0) → (x1 = 1 → R32 (Int.tmod (gi h2 22 0) 16) ∧ Q (some (vI (Int.tmod (gi h2 22 0) 16))) h2) ∧ (¬(x1 = 1) → R32 (x1 - 2) ∧ WM GM (d + 7) 0 mX8_rowAt [vR (some 0), vI 0, vI (x1 - 2)] h2 (fun r h3 => ∃ u2, r = some (vI u2) ∧ Q (some (vI u2)) h3))))) ∧ (¬(x1 ≤ 1) → R32 (x1 - 2) ∧ (0 ≤ gi h1 2 1 ∧ gi h1 2 1 ≤ 8) ∧ ((0 : Int) ≤ (x1 - 2) ∧ (x1 - 2) < gi h1 2 1 → R32 (31 + x1) ∧ R32 ((31 + x1) - 2) ∧ (0 ≤ (31 + x1) - 2 ∧ (31 + x1) - 2 < 5540) ∧ (gi h 2 ((31 + x1) - 2) = 1 → Q (some (vI (-1))) h1) ∧ (¬(gi h 2 ((31 + x1) - 2) = 1) → WM GM (d + 7) 0 mX8_layMost [vR (some 0), vI 0] h1 (fun r h4 => r = none ∧ (x1 = 0 → R32 (Int.tdiv (gi h4 22 0) 16) ∧ Q (some (vI (Int.tdiv (gi h4 22 0) 16))) h4) ∧ (¬(x1 = 0) → (x1 = 1 → R32 (Int.tmod (gi h4 22 0) 16) ∧ Q (some (vI (Int.tmod (gi h4 22 0) 16))) h4) ∧ (¬(x1 = 1) → R32 (x1 - 2) ∧ WM GM (d + 7) 0 mX8_rowAt [vR (some 0), vI 0, vI (x1 - 2)] h4 (fun r h5 => ∃ u4, r = some (vI u4) ∧ Q (some (vI u4)) h5)))))) ∧ (¬((0 : Int) ≤ (x1 - 2) ∧ (x1 - 2) < gi h1 2 1) → Q (some (vI (-1))) h1)))) : WM GM (d + 8) b mX8_hanging [vR (some 0), vI x1] h Q := by
  refine WM_introE (loc' := [some (vR (some 0)), some (vI x1)]) rfl (by decide) (Nat.le_of_ble_eq_true rfl) ?_
  refine J_rgl (i := 1) rfl (fun r1 => ?_)
  replace K := K r1
  refine J_aload_n rfl dX8_hanging_0 ?_
  refine J_iconst (by decide) dX8_hanging_1 ?_
  refine J_putI fl_RX8_161 rfl (Or.inl rfl) dX8_hanging_2 ?_
  replace K := K _ rfl
  refine J_iload_n rfl dX8_hanging_5 ?_
  refine J_if_lt (tgt := 39) dX8_hanging_6 (by decide) (fun c => ?_) (fun c => ?_)
  · replace K := K.1 c
    refine J_iconst (by decide) dX8_hanging_39 ?_
    exact J_ireturn rfl dX8_hanging_40 K
  · replace K := K.2 c
    refine J_iload_n rfl dX8_hanging_9 ?_
    refine J_iconst (by decide) dX8_hanging_10 ?_
    refine J_icmp_le (tgt := 41) dX8_hanging_11 (by decide) (fun c => ?_) (fun c => ?_)
    · replace K := K.1 c
      refine J_aload_n rfl dX8_hanging_41 ?_
      refine J_iconst (by decide) dX8_hanging_42 ?_
      refine J_b0 (J_callV (b1 := 0) (ci := 8) (vs := [vI 0]) (rest := []) (Or.inl rfl) ml_RX8_481 rfl (by decide) rfl rfl (Or.inl rfl) (Nat.le_of_ble_eq_true rfl) rfl dX8_hanging_43 (WM_mono K (fun r h2 K => ?_)))
      obtain ⟨rfl, K⟩ := K
      show J _ _ _ _ _ _ _ [] _
      refine J_iload_n rfl dX8_hanging_46 ?_
      refine J_if_ne (tgt := 62) dX8_hanging_47 (by decide) (fun c => ?_) (fun c => ?_)
      · replace K := K.2 c
        refine J_iload_n rfl dX8_hanging_62 ?_
        refine J_iconst (by decide) dX8_hanging_63 ?_
        refine J_icmp_ne (tgt := 79) dX8_hanging_64 (by decide) (fun c => ?_) (fun c => ?_)
        · replace K := K.2 c
          refine J_aload_n rfl dX8_hanging_79 ?_
          refine J_iconst (by decide) dX8_hanging_80 ?_
          refine J_iload_n rfl dX8_hanging_81 ?_
          refine J_iconst (by decide) dX8_hanging_82 ?_
          refine J_isub K.1 dX8_hanging_83 ?_
          replace K := K.2
          refine J_b0 (J_callV (b1 := 0) (ci := 8) (vs := [vI 0, vI (x1 - 2)]) (rest := []) (Or.inl rfl) ml_RX8_484 rfl (by decide) rfl rfl (Or.inl rfl) (Nat.le_of_ble_eq_true rfl) rfl dX8_hanging_84 (WM_mono K (fun r h3 K => ?_)))
          obtain ⟨u2, rfl, K⟩ := K
          show J _ _ _ _ _ _ _ [vI u2] _
          exact J_ireturn rfl dX8_hanging_87 K
        · replace K := K.1 c
          refine J_aload_n rfl dX8_hanging_67 ?_
          refine J_getS (r := 22) fl_RX8_117 rfl (Or.inl rfl) rfl dX8_hanging_68 ?_
          refine J_iconst (by decide) dX8_hanging_71 ?_
          refine J_iaload (Or.inl rfl) (by decide) dX8_hanging_72 ?_
          refine J_bipush (by decide) (by decide) dX8_hanging_73 ?_
          refine J_irem (by decide) K.1 dX8_hanging_75 ?_
          replace K := K.2
          refine J_goto (tgt := 87) dX8_hanging_76 (by decide) ?_
          exact J_ireturn rfl dX8_hanging_87 K
      · replace K := K.1 c
        refine J_aload_n rfl dX8_hanging_50 ?_
        refine J_getS (r := 22) fl_RX8_117 rfl (Or.inl rfl) rfl dX8_hanging_51 ?_
        refine J_iconst (by decide) dX8_hanging_54 ?_
        refine J_iaload (Or.inl rfl) (by decide) dX8_hanging_55 ?_
        refine J_bipush (by decide) (by decide) dX8_hanging_56 ?_
        refine J_idiv (by decide) K.1 dX8_hanging_58 ?_
        replace K := K.2
        refine J_goto (tgt := 87) dX8_hanging_59 (by decide) ?_
        exact J_ireturn rfl dX8_hanging_87 K
    · replace K := K.2 c
      refine J_aload_n rfl dX8_hanging_14 ?_
      refine J_iload_n rfl dX8_hanging_15 ?_
      refine J_iconst (by decide) dX8_hanging_16 ?_
      refine J_isub K.1 dX8_hanging_17 ?_
      replace K := K.2
      refine J_b0 (J_callV (b1 := 0) (ci := 8) (vs := [vI (x1 - 2)]) (rest := []) (Or.inl rfl) ml_RX8_203 rfl (by decide) rfl rfl (Or.inl rfl) (Nat.le_of_ble_eq_true rfl) rfl dX8_hanging_18 (c_X8_isDoor  K.1 ?_))
      replace K := K.2
      show J _ _ _ _ _ _ _ [vI _] _
      refine J_if_eq (tgt := 39) dX8_hanging_21 (by decide) (fun c => ?_) (fun c => ?_)
      · replace K := K.2 (b2i_0.mp c)
        refine J_iconst (by decide) dX8_hanging_39 ?_
        exact J_ireturn rfl dX8_hanging_40 K
      · replace K := K.1 (b2i_n0.mp c)
        refine J_aload_n rfl dX8_hanging_24 ?_
        refine J_getS (r := 2) fl_RX8_13 rfl (Or.inl rfl) rfl dX8_hanging_25 ?_
        refine J_bipush (by decide) (by decide) dX8_hanging_28 ?_
        refine J_iload_n rfl dX8_hanging_30 ?_
        refine J_iadd K.1 dX8_hanging_31 ?_
        replace K := K.2
        refine J_iconst (by decide) dX8_hanging_32 ?_
        refine J_isub K.1 dX8_hanging_33 ?_
        replace K := K.2
        refine J_ialoade (Or.inl rfl) K.1 (gi_no (by decide)) dX8_hanging_34 ?_
        replace K := K.2
        refine J_iconst (by decide) dX8_hanging_35 ?_
        refine J_icmp_ne (tgt := 41) dX8_hanging_36 (by decide) (fun c => ?_) (fun c => ?_)
        · replace K := K.2 c
          refine J_aload_n rfl dX8_hanging_41 ?_
          refine J_iconst (by decide) dX8_hanging_42 ?_
          refine J_b0 (J_callV (b1 := 0) (ci := 8) (vs := [vI 0]) (rest := []) (Or.inl rfl) ml_RX8_481 rfl (by decide) rfl rfl (Or.inl rfl) (Nat.le_of_ble_eq_true rfl) rfl dX8_hanging_43 (WM_mono K (fun r h4 K => ?_)))
          obtain ⟨rfl, K⟩ := K
          show J _ _ _ _ _ _ _ [] _
          refine J_iload_n rfl dX8_hanging_46 ?_
          refine J_if_ne (tgt := 62) dX8_hanging_47 (by decide) (fun c => ?_) (fun c => ?_)
          · replace K := K.2 c
            refine J_iload_n rfl dX8_hanging_62 ?_
            refine J_iconst (by decide) dX8_hanging_63 ?_
            refine J_icmp_ne (tgt := 79) dX8_hanging_64 (by decide) (fun c => ?_) (fun c => ?_)
            · replace K := K.2 c
              refine J_aload_n rfl dX8_hanging_79 ?_
              refine J_iconst (by decide) dX8_hanging_80 ?_
              refine J_iload_n rfl dX8_hanging_81 ?_
              refine J_iconst (by decide) dX8_hanging_82 ?_
              refine J_isub K.1 dX8_hanging_83 ?_
              replace K := K.2
              refine J_b0 (J_callV (b1 := 0) (ci := 8) (vs := [vI 0, vI (x1 - 2)]) (rest := []) (Or.inl rfl) ml_RX8_484 rfl (by decide) rfl rfl (Or.inl rfl) (Nat.le_of_ble_eq_true rfl) rfl dX8_hanging_84 (WM_mono K (fun r h5 K => ?_)))
              obtain ⟨u4, rfl, K⟩ := K
              show J _ _ _ _ _ _ _ [vI u4] _
              exact J_ireturn rfl dX8_hanging_87 K
            · replace K := K.1 c
              refine J_aload_n rfl dX8_hanging_67 ?_
              refine J_getS (r := 22) fl_RX8_117 rfl (Or.inl rfl) rfl dX8_hanging_68 ?_
              refine J_iconst (by decide) dX8_hanging_71 ?_
              refine J_iaload (Or.inl rfl) (by decide) dX8_hanging_72 ?_
              refine J_bipush (by decide) (by decide) dX8_hanging_73 ?_
              refine J_irem (by decide) K.1 dX8_hanging_75 ?_
              replace K := K.2
              refine J_goto (tgt := 87) dX8_hanging_76 (by decide) ?_
              exact J_ireturn rfl dX8_hanging_87 K
          · replace K := K.1 c
            refine J_aload_n rfl dX8_hanging_50 ?_
            refine J_getS (r := 22) fl_RX8_117 rfl (Or.inl rfl) rfl dX8_hanging_51 ?_
            refine J_iconst (by decide) dX8_hanging_54 ?_
            refine J_iaload (Or.inl rfl) (by decide) dX8_hanging_55 ?_
            refine J_bipush (by decide) (by decide) dX8_hanging_56 ?_
            refine J_idiv (by decide) K.1 dX8_hanging_58 ?_
            replace K := K.2
            refine J_goto (tgt := 87) dX8_hanging_59 (by decide) ?_
            exact J_ireturn rfl dX8_hanging_87 K
        · replace K := K.1 c
          refine J_iconst (by decide) dX8_hanging_39 ?_
          exact J_ireturn rfl dX8_hanging_40 K
set_option maxRecDepth 20000 in
set_option maxHeartbeats 2000000 in
theorem w_X8_battle {d b : Nat} {Q : Option AV → AH → Prop} {h : AH} {x1 : Int}  (K : R32 x1 → ∀ h1, h1 = si h 0 0 0 → (x1 < 0 → Q (some (vI (-1))) h1) ∧ (¬(x1 < 0) → (x1 ≤ 0 → WM GM (d + 7) 0 mX8_layMost [vR (some 0), vI 1] h1 (fun r h2 => r = none ∧ (x1 = 0 → Q (some (vI (gi h2 22 0))) h2) ∧ (¬(x1 = 0) → R32 (x1 - 1) ∧ WM GM (d + 7) 0 mX8_rowAt [vR (some 0), vI 1, vI (x1 - 1)] h2 (fun r h3 => ∃ u2, r = some (vI u2) ∧ Q (some (vI u2)) h3)))) ∧ (¬(x1 ≤ 0) → R32 (x1 - 1) ∧ (0 ≤ gi h1 2 1 ∧ gi h1 2 1 ≤ 8) ∧ ((0 : Int) ≤ (x1 - 1) ∧ (x1 - 1) < gi h1 2 1 → R32 (31 + x1) ∧ R32 ((31 + x1) - 1) ∧ (0 ≤ (31 + x1) - 1 ∧ (31 + x1) - 1 < 5540) ∧ (gi h 2 ((31 + x1) - 1) = 1 → Q (some (vI (-1))) h1) ∧ (¬(gi h 2 ((31 + x1) - 1) = 1) → WM GM (d + 7) 0 mX8_layMost [vR (some 0), vI 1] h1 (fun r h4 => r = none ∧ (x1 = 0 → Q (some (vI (gi h4 22 0))) h4) ∧ (¬(x1 = 0) → R32 (x1 - 1) ∧ WM GM (d + 7) 0 mX8_rowAt [vR (some 0), vI 1, vI (x1 - 1)] h4 (fun r h5 => ∃ u4, r = some (vI u4) ∧ Q (some (vI u4)) h5))))) ∧ (¬((0 : Int) ≤ (x1 - 1) ∧ (x1 - 1) < gi h1 2 1) → Q (some (vI (-1))) h1)))) : WM GM (d + 8) b mX8_battle [vR (some 0), vI x1] h Q := by
  refine WM_introE (loc' := [some (vR (some 0)), some (vI x1)]) rfl (by decide) (Nat.le_of_ble_eq_true rfl) ?_
  refine J_rgl (i := 1) rfl (fun r1 => ?_)
  replace K := K r1
  refine J_aload_n rfl dX8_battle_0 ?_
  refine J_iconst (by decide) dX8_battle_1 ?_
  refine J_putI fl_RX8_161 rfl (Or.inl rfl) dX8_battle_2 ?_
  replace K := K _ rfl
  refine J_iload_n rfl dX8_battle_5 ?_
  refine J_if_lt (tgt := 38) dX8_battle_6 (by decide) (fun c => ?_) (fun c => ?_)
  · replace K := K.1 c
    refine J_iconst (by decide) dX8_battle_38 ?_
    exact J_ireturn rfl dX8_battle_39 K
  · replace K := K.2 c
    refine J_iload_n rfl dX8_battle_9 ?_
    refine J_if_le (tgt := 40) dX8_battle_10 (by decide) (fun c => ?_) (fun c => ?_)
    · replace K := K.1 c
      refine J_aload_n rfl dX8_battle_40 ?_
      refine J_iconst (by decide) dX8_battle_41 ?_
      refine J_b0 (J_callV (b1 := 0) (ci := 8) (vs := [vI 1]) (rest := []) (Or.inl rfl) ml_RX8_481 rfl (by decide) rfl rfl (Or.inl rfl) (Nat.le_of_ble_eq_true rfl) rfl dX8_battle_42 (WM_mono K (fun r h2 K => ?_)))
      obtain ⟨rfl, K⟩ := K
      show J _ _ _ _ _ _ _ [] _
      refine J_iload_n rfl dX8_battle_45 ?_
      refine J_if_ne (tgt := 58) dX8_battle_46 (by decide) (fun c => ?_) (fun c => ?_)
      · replace K := K.2 c
        refine J_aload_n rfl dX8_battle_58 ?_
        refine J_iconst (by decide) dX8_battle_59 ?_
        refine J_iload_n rfl dX8_battle_60 ?_
        refine J_iconst (by decide) dX8_battle_61 ?_
        refine J_isub K.1 dX8_battle_62 ?_
        replace K := K.2
        refine J_b0 (J_callV (b1 := 0) (ci := 8) (vs := [vI 1, vI (x1 - 1)]) (rest := []) (Or.inl rfl) ml_RX8_484 rfl (by decide) rfl rfl (Or.inl rfl) (Nat.le_of_ble_eq_true rfl) rfl dX8_battle_63 (WM_mono K (fun r h3 K => ?_)))
        obtain ⟨u2, rfl, K⟩ := K
        show J _ _ _ _ _ _ _ [vI u2] _
        exact J_ireturn rfl dX8_battle_66 K
      · replace K := K.1 c
        refine J_aload_n rfl dX8_battle_49 ?_
        refine J_getS (r := 22) fl_RX8_117 rfl (Or.inl rfl) rfl dX8_battle_50 ?_
        refine J_iconst (by decide) dX8_battle_53 ?_
        refine J_iaload (Or.inl rfl) (by decide) dX8_battle_54 ?_
        refine J_goto (tgt := 66) dX8_battle_55 (by decide) ?_
        exact J_ireturn rfl dX8_battle_66 K
    · replace K := K.2 c
      refine J_aload_n rfl dX8_battle_13 ?_
      refine J_iload_n rfl dX8_battle_14 ?_
      refine J_iconst (by decide) dX8_battle_15 ?_
      refine J_isub K.1 dX8_battle_16 ?_
      replace K := K.2
      refine J_b0 (J_callV (b1 := 0) (ci := 8) (vs := [vI (x1 - 1)]) (rest := []) (Or.inl rfl) ml_RX8_203 rfl (by decide) rfl rfl (Or.inl rfl) (Nat.le_of_ble_eq_true rfl) rfl dX8_battle_17 (c_X8_isDoor  K.1 ?_))
      replace K := K.2
      show J _ _ _ _ _ _ _ [vI _] _
      refine J_if_eq (tgt := 38) dX8_battle_20 (by decide) (fun c => ?_) (fun c => ?_)
      · replace K := K.2 (b2i_0.mp c)
        refine J_iconst (by decide) dX8_battle_38 ?_
        exact J_ireturn rfl dX8_battle_39 K
      · replace K := K.1 (b2i_n0.mp c)
        refine J_aload_n rfl dX8_battle_23 ?_
        refine J_getS (r := 2) fl_RX8_13 rfl (Or.inl rfl) rfl dX8_battle_24 ?_
        refine J_bipush (by decide) (by decide) dX8_battle_27 ?_
        refine J_iload_n rfl dX8_battle_29 ?_
        refine J_iadd K.1 dX8_battle_30 ?_
        replace K := K.2
        refine J_iconst (by decide) dX8_battle_31 ?_
        refine J_isub K.1 dX8_battle_32 ?_
        replace K := K.2
        refine J_ialoade (Or.inl rfl) K.1 (gi_no (by decide)) dX8_battle_33 ?_
        replace K := K.2
        refine J_iconst (by decide) dX8_battle_34 ?_
        refine J_icmp_ne (tgt := 40) dX8_battle_35 (by decide) (fun c => ?_) (fun c => ?_)
        · replace K := K.2 c
          refine J_aload_n rfl dX8_battle_40 ?_
          refine J_iconst (by decide) dX8_battle_41 ?_
          refine J_b0 (J_callV (b1 := 0) (ci := 8) (vs := [vI 1]) (rest := []) (Or.inl rfl) ml_RX8_481 rfl (by decide) rfl rfl (Or.inl rfl) (Nat.le_of_ble_eq_true rfl) rfl dX8_battle_42 (WM_mono K (fun r h4 K => ?_)))
          obtain ⟨rfl, K⟩ := K
          show J _ _ _ _ _ _ _ [] _
          refine J_iload_n rfl dX8_battle_45 ?_
          refine J_if_ne (tgt := 58) dX8_battle_46 (by decide) (fun c => ?_) (fun c => ?_)
          · replace K := K.2 c
            refine J_aload_n rfl dX8_battle_58 ?_
            refine J_iconst (by decide) dX8_battle_59 ?_
            refine J_iload_n rfl dX8_battle_60 ?_
            refine J_iconst (by decide) dX8_battle_61 ?_
            refine J_isub K.1 dX8_battle_62 ?_
            replace K := K.2
            refine J_b0 (J_callV (b1 := 0) (ci := 8) (vs := [vI 1, vI (x1 - 1)]) (rest := []) (Or.inl rfl) ml_RX8_484 rfl (by decide) rfl rfl (Or.inl rfl) (Nat.le_of_ble_eq_true rfl) rfl dX8_battle_63 (WM_mono K (fun r h5 K => ?_)))
            obtain ⟨u4, rfl, K⟩ := K
            show J _ _ _ _ _ _ _ [vI u4] _
            exact J_ireturn rfl dX8_battle_66 K
          · replace K := K.1 c
            refine J_aload_n rfl dX8_battle_49 ?_
            refine J_getS (r := 22) fl_RX8_117 rfl (Or.inl rfl) rfl dX8_battle_50 ?_
            refine J_iconst (by decide) dX8_battle_53 ?_
            refine J_iaload (Or.inl rfl) (by decide) dX8_battle_54 ?_
            refine J_goto (tgt := 66) dX8_battle_55 (by decide) ?_
            exact J_ireturn rfl dX8_battle_66 K
        · replace K := K.1 c
          refine J_iconst (by decide) dX8_battle_38 ?_
          exact J_ireturn rfl dX8_battle_39 K
