def Lp_X2_fewestFor_6 (d b : Nat) (Q : Option AV → AH → Prop)  (y3 : Int) (y4 : Int) (y5 : Int) (h : AH) : Prop := J GX (d + 4) b mX2_fewestFor Q 6 [some (vR (some 43)), some (vR (some 1)), some (vR (some 38)), some (vI y3), some (vI y4), some (vI y5), none, none, none] [] h
def Lp_X2_fewestFor_77 (d b : Nat) (Q : Option AV → AH → Prop)  (y3 : Int) (y4 : Int) (y5 : Int) (y6 : Int) (h : AH) : Prop := J GX (d + 4) b mX2_fewestFor Q 77 [some (vR (some 43)), none, none, some (vI y3), some (vI y4), some (vI y5), some (vI y6), none, none] [] h
def Lp_X2_fewestFor_126 (d b : Nat) (Q : Option AV → AH → Prop)  (y3 : Int) (y4 : Int) (y5 : Int) (y6 : Int) (y7 : Int) (y8 : Int) (h : AH) : Prop := J GX (d + 4) b mX2_fewestFor Q 126 [some (vR (some 43)), none, none, some (vI y3), some (vI y4), some (vI y5), some (vI y6), some (vI y7), some (vI y8)] [] h
set_option maxRecDepth 20000 in
set_option maxHeartbeats 2000000 in
theorem l_X2_fewestFor_6 {d b : Nat} {Q : Option AV → AH → Prop} {h : AH}  {y3 : Int} {y4 : Int} {y5 : Int}  (K : (gi h 1 2 ≤ y5 → Lp_X2_fewestFor_77 d b Q y3 y4 (-1) 0 h) ∧ (¬(gi h 1 2 ≤ y5) → (0 ≤ y5 ∧ y5 < 8) ∧ (gi h 7 y5 = (-1) → R32 (y5 + 1) ∧ Lp_X2_fewestFor_6 d b Q y3 y4 (y5 + 1) h) ∧ (¬(gi h 7 y5 = (-1)) → WM GX (d + 3) 0 mX1_isBarred [vR (some 38), vR (some 1), vI y5] h (fun r h1 => ∃ u1, r = some (vI u1) ∧ (u1 = 0 → WM GX (d + 3) 0 mX1_catchOf [vR (some 38), vR (some 1), vI y5, vI 0, vI 99] h1 (fun r h2 => ∃ u2, r = some (vI u2) ∧ (0 ≤ y5 ∧ y5 < 8) ∧ ∀ h3, h3 = si h2 48 y5 u2 → R32 (y5 + 1) ∧ Lp_X2_fewestFor_6 d b Q y3 (zor y4 (zshl 1 y5)) (y5 + 1) h3)) ∧ (¬(u1 = 0) → R32 (y5 + 1) ∧ Lp_X2_fewestFor_6 d b Q y3 y4 (y5 + 1) h1))))) : Lp_X2_fewestFor_6 d b Q y3 y4 y5 h := by
  unfold Lp_X2_fewestFor_6
  refine J_iload rfl dX2_fewestFor_6 ?_
  refine J_aload_n rfl dX2_fewestFor_8 ?_
  refine J_getI fl_RX2_30 rfl (Or.inl rfl) dX2_fewestFor_9 ?_
  refine J_icmp_ge (tgt := 71) dX2_fewestFor_12 (by decide) (fun c => ?_) (fun c => ?_)
  · replace K := K.1 c
    refine J_iconst (by decide) dX2_fewestFor_71 ?_
    refine J_istore (loc' := [some (vR (some 43)), some (vR (some 1)), some (vR (some 38)), some (vI y3), some (vI y4), some (vI (-1)), none, none, none]) (by decide) rfl dX2_fewestFor_72 ?_
    refine J_iconst (by decide) dX2_fewestFor_74 ?_
    refine J_istore (loc' := [some (vR (some 43)), some (vR (some 1)), some (vR (some 38)), some (vI y3), some (vI y4), some (vI (-1)), some (vI 0), none, none]) (by decide) rfl dX2_fewestFor_75 ?_
    exact J_forget (loc' := [some (vR (some 43)), none, none, some (vI y3), some (vI y4), some (vI (-1)), some (vI 0), none, none]) (And.intro (Or.inr rfl) (And.intro (Or.inl rfl) (And.intro (Or.inl rfl) (And.intro (Or.inr rfl) (And.intro (Or.inr rfl) (And.intro (Or.inr rfl) (And.intro (Or.inr rfl) (And.intro (Or.inl rfl) (And.intro (Or.inl rfl) True.intro))))))))) K
  · replace K := K.2 c
    refine J_aload_n rfl dX2_fewestFor_15 ?_
    refine J_getS (r := 7) fl_RX2_36 rfl (Or.inl rfl) rfl dX2_fewestFor_16 ?_
    refine J_iload rfl dX2_fewestFor_19 ?_
    refine J_iaload (Or.inl rfl) K.1 dX2_fewestFor_21 ?_
    replace K := K.2
    refine J_iconst (by decide) dX2_fewestFor_22 ?_
    refine J_icmp_eq (tgt := 65) dX2_fewestFor_23 (by decide) (fun c => ?_) (fun c => ?_)
    · replace K := K.1 c
      refine J_iinc (loc' := [some (vR (some 43)), some (vR (some 1)), some (vR (some 38)), some (vI y3), some (vI y4), some (vI (y5 + 1)), none, none, none]) (by decide) rfl K.1 rfl dX2_fewestFor_65 ?_
      replace K := K.2
      refine J_goto (tgt := 6) dX2_fewestFor_68 (by decide) ?_
      exact J_forget (loc' := [some (vR (some 43)), some (vR (some 1)), some (vR (some 38)), some (vI y3), some (vI y4), some (vI (y5 + 1)), none, none, none]) (And.intro (Or.inr rfl) (And.intro (Or.inr rfl) (And.intro (Or.inr rfl) (And.intro (Or.inr rfl) (And.intro (Or.inr rfl) (And.intro (Or.inr rfl) (And.intro (Or.inl rfl) (And.intro (Or.inl rfl) (And.intro (Or.inl rfl) True.intro))))))))) K
    · replace K := K.2 c
      refine J_aload_n rfl dX2_fewestFor_26 ?_
      refine J_aload_n rfl dX2_fewestFor_27 ?_
      refine J_iload rfl dX2_fewestFor_28 ?_
      refine J_b0 (J_callV (b1 := 0) (ci := 1) (vs := [vR (some 1), vI y5]) (rest := []) (Or.inr rfl) ml_RX2_39 rfl (by decide) rfl rfl (Or.inl rfl) (Nat.le_of_ble_eq_true rfl) rfl dX2_fewestFor_30 (WM_mono K (fun r h1 K => ?_)))
      obtain ⟨u1, rfl, K⟩ := K
      show J _ _ _ _ _ _ _ [vI u1] _
      refine J_if_eq (tgt := 39) dX2_fewestFor_33 (by decide) (fun c => ?_) (fun c => ?_)
      · replace K := K.1 c
        refine J_iload rfl dX2_fewestFor_39 ?_
        refine J_iconst (by decide) dX2_fewestFor_41 ?_
        refine J_iload rfl dX2_fewestFor_42 ?_
        refine J_ishl dX2_fewestFor_44 ?_
        refine J_ior dX2_fewestFor_45 ?_
        refine J_istore (loc' := [some (vR (some 43)), some (vR (some 1)), some (vR (some 38)), some (vI y3), some (vI (zor y4 (zshl 1 y5))), some (vI y5), none, none, none]) (by decide) rfl dX2_fewestFor_46 ?_
        refine J_aload_n rfl dX2_fewestFor_48 ?_
        refine J_getS (r := 48) fl_RX2_24 rfl (Or.inl rfl) rfl dX2_fewestFor_49 ?_
        refine J_iload rfl dX2_fewestFor_52 ?_
        refine J_aload_n rfl dX2_fewestFor_54 ?_
        refine J_aload_n rfl dX2_fewestFor_55 ?_
        refine J_iload rfl dX2_fewestFor_56 ?_
        refine J_iconst (by decide) dX2_fewestFor_58 ?_
        refine J_bipush (by decide) (by decide) dX2_fewestFor_59 ?_
        refine J_b0 (J_callV (b1 := 0) (ci := 1) (vs := [vR (some 1), vI y5, vI 0, vI 99]) (rest := [vI y5, vR (some 48)]) (Or.inr rfl) ml_RX2_45 rfl (by decide) rfl rfl (Or.inl rfl) (Nat.le_of_ble_eq_true rfl) rfl dX2_fewestFor_61 (WM_mono K (fun r h2 K => ?_)))
        obtain ⟨u2, rfl, K⟩ := K
        show J _ _ _ _ _ _ _ [vI u2, vI y5, vR (some 48)] _
        refine J_iastore (Or.inl rfl) K.1 dX2_fewestFor_64 ?_
        replace K := K.2
        replace K := K _ rfl
        refine J_iinc (loc' := [some (vR (some 43)), some (vR (some 1)), some (vR (some 38)), some (vI y3), some (vI (zor y4 (zshl 1 y5))), some (vI (y5 + 1)), none, none, none]) (by decide) rfl K.1 rfl dX2_fewestFor_65 ?_
        replace K := K.2
        refine J_goto (tgt := 6) dX2_fewestFor_68 (by decide) ?_
        exact J_forget (loc' := [some (vR (some 43)), some (vR (some 1)), some (vR (some 38)), some (vI y3), some (vI (zor y4 (zshl 1 y5))), some (vI (y5 + 1)), none, none, none]) (And.intro (Or.inr rfl) (And.intro (Or.inr rfl) (And.intro (Or.inr rfl) (And.intro (Or.inr rfl) (And.intro (Or.inr rfl) (And.intro (Or.inr rfl) (And.intro (Or.inl rfl) (And.intro (Or.inl rfl) (And.intro (Or.inl rfl) True.intro))))))))) K
      · replace K := K.2 c
        refine J_goto (tgt := 65) dX2_fewestFor_36 (by decide) ?_
        refine J_iinc (loc' := [some (vR (some 43)), some (vR (some 1)), some (vR (some 38)), some (vI y3), some (vI y4), some (vI (y5 + 1)), none, none, none]) (by decide) rfl K.1 rfl dX2_fewestFor_65 ?_
        replace K := K.2
        refine J_goto (tgt := 6) dX2_fewestFor_68 (by decide) ?_
        exact J_forget (loc' := [some (vR (some 43)), some (vR (some 1)), some (vR (some 38)), some (vI y3), some (vI y4), some (vI (y5 + 1)), none, none, none]) (And.intro (Or.inr rfl) (And.intro (Or.inr rfl) (And.intro (Or.inr rfl) (And.intro (Or.inr rfl) (And.intro (Or.inr rfl) (And.intro (Or.inr rfl) (And.intro (Or.inl rfl) (And.intro (Or.inl rfl) (And.intro (Or.inl rfl) True.intro))))))))) K
set_option maxRecDepth 20000 in
set_option maxHeartbeats 2000000 in
theorem l_X2_fewestFor_77 {d b : Nat} {Q : Option AV → AH → Prop} {h : AH}  {y3 : Int} {y4 : Int} {y5 : Int} {y6 : Int}  (K : (256 ≤ y6 → Q (some (vI y5)) h) ∧ (¬(256 ≤ y6) → (zand y6 (zxor y4 (-1)) = 0 → (y5 = (-1) → Lp_X2_fewestFor_126 d b Q y3 y4 y5 y6 0 0 h) ∧ (¬(y5 = (-1)) → ((0 : Int) ≤ y6 ∧ (y6 : Int) < 33554432) ∧ ((0 : Int) ≤ y5 ∧ (y5 : Int) < 33554432) ∧ (pcI y6 < pcI y5 → Lp_X2_fewestFor_126 d b Q y3 y4 y5 y6 0 0 h) ∧ (¬(pcI y6 < pcI y5) → R32 (y6 + 1) ∧ Lp_X2_fewestFor_77 d b Q y3 y4 y5 (y6 + 1) h))) ∧ (¬(zand y6 (zxor y4 (-1)) = 0) → R32 (y6 + 1) ∧ Lp_X2_fewestFor_77 d b Q y3 y4 y5 (y6 + 1) h))) : Lp_X2_fewestFor_77 d b Q y3 y4 y5 y6 h := by
  unfold Lp_X2_fewestFor_77
  refine J_iload rfl dX2_fewestFor_77 ?_
  refine J_sipush (by decide) (by decide) dX2_fewestFor_79 ?_
  refine J_icmp_ge (tgt := 178) dX2_fewestFor_82 (by decide) (fun c => ?_) (fun c => ?_)
  · replace K := K.1 c
    refine J_iload rfl dX2_fewestFor_178 ?_
    exact J_ireturn rfl dX2_fewestFor_180 K
  · replace K := K.2 c
    refine J_iload rfl dX2_fewestFor_85 ?_
    refine J_iload rfl dX2_fewestFor_87 ?_
    refine J_iconst (by decide) dX2_fewestFor_89 ?_
    refine J_ixor dX2_fewestFor_90 ?_
    refine J_iand dX2_fewestFor_91 ?_
    refine J_if_eq (tgt := 98) dX2_fewestFor_92 (by decide) (fun c => ?_) (fun c => ?_)
    · replace K := K.1 c
      refine J_iload rfl dX2_fewestFor_98 ?_
      refine J_iconst (by decide) dX2_fewestFor_100 ?_
      refine J_icmp_eq (tgt := 120) dX2_fewestFor_101 (by decide) (fun c => ?_) (fun c => ?_)
      · replace K := K.1 c
        refine J_iconst (by decide) dX2_fewestFor_120 ?_
        refine J_istore (loc' := [some (vR (some 43)), none, none, some (vI y3), some (vI y4), some (vI y5), some (vI y6), some (vI 0), none]) (by decide) rfl dX2_fewestFor_121 ?_
        refine J_iconst (by decide) dX2_fewestFor_123 ?_
        refine J_istore (loc' := [some (vR (some 43)), none, none, some (vI y3), some (vI y4), some (vI y5), some (vI y6), some (vI 0), some (vI 0)]) (by decide) rfl dX2_fewestFor_124 ?_
        exact J_forget (loc' := [some (vR (some 43)), none, none, some (vI y3), some (vI y4), some (vI y5), some (vI y6), some (vI 0), some (vI 0)]) (And.intro (Or.inr rfl) (And.intro (Or.inl rfl) (And.intro (Or.inl rfl) (And.intro (Or.inr rfl) (And.intro (Or.inr rfl) (And.intro (Or.inr rfl) (And.intro (Or.inr rfl) (And.intro (Or.inr rfl) (And.intro (Or.inr rfl) True.intro))))))))) K
      · replace K := K.2 c
        refine J_iload rfl dX2_fewestFor_104 ?_
        refine J_b0 (J_callS (b1 := 0) (vs := [vI y6]) (rest := []) (Or.inl rfl) ml_RX2_49 rfl (by decide) (Nat.le_of_ble_eq_true rfl) rfl dX2_fewestFor_106 (c_J6_bitCount  K.1 ?_))
        replace K := K.2
        show J _ _ _ _ _ _ _ [vI (pcI y6)] _
        refine J_iload rfl dX2_fewestFor_109 ?_
        refine J_b0 (J_callS (b1 := 0) (vs := [vI y5]) (rest := [vI (pcI y6)]) (Or.inl rfl) ml_RX2_49 rfl (by decide) (Nat.le_of_ble_eq_true rfl) rfl dX2_fewestFor_111 (c_J6_bitCount  K.1 ?_))
        replace K := K.2
        show J _ _ _ _ _ _ _ [vI (pcI y5), vI (pcI y6)] _
        refine J_icmp_lt (tgt := 120) dX2_fewestFor_114 (by decide) (fun c => ?_) (fun c => ?_)
        · replace K := K.1 c
          refine J_iconst (by decide) dX2_fewestFor_120 ?_
          refine J_istore (loc' := [some (vR (some 43)), none, none, some (vI y3), some (vI y4), some (vI y5), some (vI y6), some (vI 0), none]) (by decide) rfl dX2_fewestFor_121 ?_
          refine J_iconst (by decide) dX2_fewestFor_123 ?_
          refine J_istore (loc' := [some (vR (some 43)), none, none, some (vI y3), some (vI y4), some (vI y5), some (vI y6), some (vI 0), some (vI 0)]) (by decide) rfl dX2_fewestFor_124 ?_
          exact J_forget (loc' := [some (vR (some 43)), none, none, some (vI y3), some (vI y4), some (vI y5), some (vI y6), some (vI 0), some (vI 0)]) (And.intro (Or.inr rfl) (And.intro (Or.inl rfl) (And.intro (Or.inl rfl) (And.intro (Or.inr rfl) (And.intro (Or.inr rfl) (And.intro (Or.inr rfl) (And.intro (Or.inr rfl) (And.intro (Or.inr rfl) (And.intro (Or.inr rfl) True.intro))))))))) K
        · replace K := K.2 c
          refine J_goto (tgt := 172) dX2_fewestFor_117 (by decide) ?_
          refine J_iinc (loc' := [some (vR (some 43)), none, none, some (vI y3), some (vI y4), some (vI y5), some (vI (y6 + 1)), none, none]) (by decide) rfl K.1 rfl dX2_fewestFor_172 ?_
          replace K := K.2
          refine J_goto (tgt := 77) dX2_fewestFor_175 (by decide) ?_
          exact J_forget (loc' := [some (vR (some 43)), none, none, some (vI y3), some (vI y4), some (vI y5), some (vI (y6 + 1)), none, none]) (And.intro (Or.inr rfl) (And.intro (Or.inl rfl) (And.intro (Or.inl rfl) (And.intro (Or.inr rfl) (And.intro (Or.inr rfl) (And.intro (Or.inr rfl) (And.intro (Or.inr rfl) (And.intro (Or.inl rfl) (And.intro (Or.inl rfl) True.intro))))))))) K
    · replace K := K.2 c
      refine J_goto (tgt := 172) dX2_fewestFor_95 (by decide) ?_
      refine J_iinc (loc' := [some (vR (some 43)), none, none, some (vI y3), some (vI y4), some (vI y5), some (vI (y6 + 1)), none, none]) (by decide) rfl K.1 rfl dX2_fewestFor_172 ?_
      replace K := K.2
      refine J_goto (tgt := 77) dX2_fewestFor_175 (by decide) ?_
      exact J_forget (loc' := [some (vR (some 43)), none, none, some (vI y3), some (vI y4), some (vI y5), some (vI (y6 + 1)), none, none]) (And.intro (Or.inr rfl) (And.intro (Or.inl rfl) (And.intro (Or.inl rfl) (And.intro (Or.inr rfl) (And.intro (Or.inr rfl) (And.intro (Or.inr rfl) (And.intro (Or.inr rfl) (And.intro (Or.inl rfl) (And.intro (Or.inl rfl) True.intro))))))))) K
set_option maxRecDepth 20000 in
set_option maxHeartbeats 2000000 in
theorem l_X2_fewestFor_126 {d b : Nat} {Q : Option AV → AH → Prop} {h : AH}  {y3 : Int} {y4 : Int} {y5 : Int} {y6 : Int} {y7 : Int} {y8 : Int}  (K : (8 ≤ y8 → (y7 < y3 → R32 (y6 + 1) ∧ Lp_X2_fewestFor_77 d b Q y3 y4 y5 (y6 + 1) h) ∧ (¬(y7 < y3) → R32 (y6 + 1) ∧ Lp_X2_fewestFor_77 d b Q y3 y4 y6 (y6 + 1) h)) ∧ (¬(8 ≤ y8) → (zand (zshr y6 y8) 1 = 1 → (0 ≤ y8 ∧ y8 < 8) ∧ R32 (y7 + (gi h 48 y8)) ∧ R32 (y8 + 1) ∧ Lp_X2_fewestFor_126 d b Q y3 y4 y5 y6 (y7 + (gi h 48 y8)) (y8 + 1) h) ∧ (¬(zand (zshr y6 y8) 1 = 1) → R32 (y8 + 1) ∧ Lp_X2_fewestFor_126 d b Q y3 y4 y5 y6 y7 (y8 + 1) h))) : Lp_X2_fewestFor_126 d b Q y3 y4 y5 y6 y7 y8 h := by
  unfold Lp_X2_fewestFor_126
  refine J_iload rfl dX2_fewestFor_126 ?_
  refine J_bipush (by decide) (by decide) dX2_fewestFor_128 ?_
  refine J_icmp_ge (tgt := 162) dX2_fewestFor_130 (by decide) (fun c => ?_) (fun c => ?_)
  · replace K := K.1 c
    refine J_iload rfl dX2_fewestFor_162 ?_
    refine J_iload_n rfl dX2_fewestFor_164 ?_
    refine J_icmp_lt (tgt := 172) dX2_fewestFor_165 (by decide) (fun c => ?_) (fun c => ?_)
    · replace K := K.1 c
      refine J_iinc (loc' := [some (vR (some 43)), none, none, some (vI y3), some (vI y4), some (vI y5), some (vI (y6 + 1)), some (vI y7), some (vI y8)]) (by decide) rfl K.1 rfl dX2_fewestFor_172 ?_
      replace K := K.2
      refine J_goto (tgt := 77) dX2_fewestFor_175 (by decide) ?_
      exact J_forget (loc' := [some (vR (some 43)), none, none, some (vI y3), some (vI y4), some (vI y5), some (vI (y6 + 1)), none, none]) (And.intro (Or.inr rfl) (And.intro (Or.inl rfl) (And.intro (Or.inl rfl) (And.intro (Or.inr rfl) (And.intro (Or.inr rfl) (And.intro (Or.inr rfl) (And.intro (Or.inr rfl) (And.intro (Or.inl rfl) (And.intro (Or.inl rfl) True.intro))))))))) K
    · replace K := K.2 c
      refine J_iload rfl dX2_fewestFor_168 ?_
      refine J_istore (loc' := [some (vR (some 43)), none, none, some (vI y3), some (vI y4), some (vI y6), some (vI y6), some (vI y7), some (vI y8)]) (by decide) rfl dX2_fewestFor_170 ?_
      refine J_iinc (loc' := [some (vR (some 43)), none, none, some (vI y3), some (vI y4), some (vI y6), some (vI (y6 + 1)), some (vI y7), some (vI y8)]) (by decide) rfl K.1 rfl dX2_fewestFor_172 ?_
      replace K := K.2
      refine J_goto (tgt := 77) dX2_fewestFor_175 (by decide) ?_
      exact J_forget (loc' := [some (vR (some 43)), none, none, some (vI y3), some (vI y4), some (vI y6), some (vI (y6 + 1)), none, none]) (And.intro (Or.inr rfl) (And.intro (Or.inl rfl) (And.intro (Or.inl rfl) (And.intro (Or.inr rfl) (And.intro (Or.inr rfl) (And.intro (Or.inr rfl) (And.intro (Or.inr rfl) (And.intro (Or.inl rfl) (And.intro (Or.inl rfl) True.intro))))))))) K
  · replace K := K.2 c
    refine J_iload rfl dX2_fewestFor_133 ?_
    refine J_iload rfl dX2_fewestFor_135 ?_
    refine J_ishr dX2_fewestFor_137 ?_
    refine J_iconst (by decide) dX2_fewestFor_138 ?_
    refine J_iand dX2_fewestFor_139 ?_
    refine J_iconst (by decide) dX2_fewestFor_140 ?_
    refine J_icmp_ne (tgt := 156) dX2_fewestFor_141 (by decide) (fun c => ?_) (fun c => ?_)
    · replace K := K.2 c
      refine J_iinc (loc' := [some (vR (some 43)), none, none, some (vI y3), some (vI y4), some (vI y5), some (vI y6), some (vI y7), some (vI (y8 + 1))]) (by decide) rfl K.1 rfl dX2_fewestFor_156 ?_
      replace K := K.2
      refine J_goto (tgt := 126) dX2_fewestFor_159 (by decide) ?_
      exact J_forget (loc' := [some (vR (some 43)), none, none, some (vI y3), some (vI y4), some (vI y5), some (vI y6), some (vI y7), some (vI (y8 + 1))]) (And.intro (Or.inr rfl) (And.intro (Or.inl rfl) (And.intro (Or.inl rfl) (And.intro (Or.inr rfl) (And.intro (Or.inr rfl) (And.intro (Or.inr rfl) (And.intro (Or.inr rfl) (And.intro (Or.inr rfl) (And.intro (Or.inr rfl) True.intro))))))))) K
    · replace K := K.1 c
      refine J_iload rfl dX2_fewestFor_144 ?_
      refine J_aload_n rfl dX2_fewestFor_146 ?_
      refine J_getS (r := 48) fl_RX2_24 rfl (Or.inl rfl) rfl dX2_fewestFor_147 ?_
      refine J_iload rfl dX2_fewestFor_150 ?_
      refine J_iaload (Or.inl rfl) K.1 dX2_fewestFor_152 ?_
      replace K := K.2
      refine J_iadd K.1 dX2_fewestFor_153 ?_
      replace K := K.2
      refine J_istore (loc' := [some (vR (some 43)), none, none, some (vI y3), some (vI y4), some (vI y5), some (vI y6), some (vI (y7 + (gi h 48 y8))), some (vI y8)]) (by decide) rfl dX2_fewestFor_154 ?_
      refine J_iinc (loc' := [some (vR (some 43)), none, none, some (vI y3), some (vI y4), some (vI y5), some (vI y6), some (vI (y7 + (gi h 48 y8))), some (vI (y8 + 1))]) (by decide) rfl K.1 rfl dX2_fewestFor_156 ?_
      replace K := K.2
      refine J_goto (tgt := 126) dX2_fewestFor_159 (by decide) ?_
      exact J_forget (loc' := [some (vR (some 43)), none, none, some (vI y3), some (vI y4), some (vI y5), some (vI y6), some (vI (y7 + (gi h 48 y8))), some (vI (y8 + 1))]) (And.intro (Or.inr rfl) (And.intro (Or.inl rfl) (And.intro (Or.inl rfl) (And.intro (Or.inr rfl) (And.intro (Or.inr rfl) (And.intro (Or.inr rfl) (And.intro (Or.inr rfl) (And.intro (Or.inr rfl) (And.intro (Or.inr rfl) True.intro))))))))) K
set_option maxRecDepth 20000 in
set_option maxHeartbeats 2000000 in
theorem w_X2_fewestFor {d b : Nat} {Q : Option AV → AH → Prop} {h : AH} {x3 : Int}  (K : Lp_X2_fewestFor_6 d b Q x3 0 0 h) : WM GX (d + 4) b mX2_fewestFor [vR (some 43), vR (some 1), vR (some 38), vI x3] h Q := by
  refine WM_introE (loc' := [some (vR (some 43)), some (vR (some 1)), some (vR (some 38)), some (vI x3), none, none, none, none, none]) rfl (by decide) (Nat.le_of_ble_eq_true rfl) ?_
  refine J_iconst (by decide) dX2_fewestFor_0 ?_
  refine J_istore (loc' := [some (vR (some 43)), some (vR (some 1)), some (vR (some 38)), some (vI x3), some (vI 0), none, none, none, none]) (by decide) rfl dX2_fewestFor_1 ?_
  refine J_iconst (by decide) dX2_fewestFor_3 ?_
  refine J_istore (loc' := [some (vR (some 43)), some (vR (some 1)), some (vR (some 38)), some (vI x3), some (vI 0), some (vI 0), none, none, none]) (by decide) rfl dX2_fewestFor_4 ?_
  exact J_forget (loc' := [some (vR (some 43)), some (vR (some 1)), some (vR (some 38)), some (vI x3), some (vI 0), some (vI 0), none, none, none]) (And.intro (Or.inr rfl) (And.intro (Or.inr rfl) (And.intro (Or.inr rfl) (And.intro (Or.inr rfl) (And.intro (Or.inr rfl) (And.intro (Or.inr rfl) (And.intro (Or.inl rfl) (And.intro (Or.inl rfl) (And.intro (Or.inl rfl) True.intro))))))))) K
set_option maxRecDepth 20000 in
set_option maxHeartbeats 2000000 in
theorem w_X7_fleet {d b : Nat} {Q : Option AV → AH → Prop} {h : AH} {x1 : Int} {x2 : Int}  (K : R32 x1 → R32 x2 → (x1 < 0 → Q (some (vI (-1))) h) ∧ (¬(x1 < 0) → (9999 < x1 → Q (some (vI (-1))) h) ∧ (¬(9999 < x1) → (x2 < 0 → Q (some (vI (-1))) h) ∧ (¬(x2 < 0) → (x2 ≤ 1 → WM GX (d + 4) 0 mX2_fewestFor [vR (some 43), vR (some 1), vR (some 38), vI x1] h (fun r h1 => ∃ u1, r = some (vI u1) ∧ (u1 = (-1) → Q (some (vI u1)) h1) ∧ (¬(u1 = (-1)) → (x2 = 1 → Q (some (vI u1)) h1) ∧ (¬(x2 = 1) → ((0 : Int) ≤ u1 ∧ (u1 : Int) < 33554432) ∧ Q (some (vI (pcI u1))) h1)))) ∧ (¬(x2 ≤ 1) → Q (some (vI (-1))) h))))) : WM GX (d + 5) b mX7_fleet [vR (some 0), vI x1, vI x2] h Q := by
  refine WM_introE (loc' := [some (vR (some 0)), some (vI x1), some (vI x2), none]) rfl (by decide) (Nat.le_of_ble_eq_true rfl) ?_
  refine J_rgl (i := 1) rfl (fun r1 => ?_)
  replace K := K r1
  refine J_rgl (i := 2) rfl (fun r2 => ?_)
  replace K := K r2
  refine J_iload_n rfl dX7_fleet_0 ?_
  refine J_if_lt (tgt := 20) dX7_fleet_1 (by decide) (fun c => ?_) (fun c => ?_)
  · replace K := K.1 c
    refine J_iconst (by decide) dX7_fleet_20 ?_
    exact J_ireturn rfl dX7_fleet_21 K
  · replace K := K.2 c
    refine J_iload_n rfl dX7_fleet_4 ?_
    refine J_sipush (by decide) (by decide) dX7_fleet_5 ?_
    refine J_icmp_gt (tgt := 20) dX7_fleet_8 (by decide) (fun c => ?_) (fun c => ?_)
    · replace K := K.1 c
      refine J_iconst (by decide) dX7_fleet_20 ?_
      exact J_ireturn rfl dX7_fleet_21 K
    · replace K := K.2 c
      refine J_iload_n rfl dX7_fleet_11 ?_
      refine J_if_lt (tgt := 20) dX7_fleet_12 (by decide) (fun c => ?_) (fun c => ?_)
      · replace K := K.1 c
        refine J_iconst (by decide) dX7_fleet_20 ?_
        exact J_ireturn rfl dX7_fleet_21 K
      · replace K := K.2 c
        refine J_iload_n rfl dX7_fleet_15 ?_
        refine J_iconst (by decide) dX7_fleet_16 ?_
        refine J_icmp_le (tgt := 22) dX7_fleet_17 (by decide) (fun c => ?_) (fun c => ?_)
        · replace K := K.1 c
          refine J_aload_n rfl dX7_fleet_22 ?_
          refine J_getS (r := 43) fl_RX7_64 rfl (Or.inl rfl) rfl dX7_fleet_23 ?_
          refine J_aload_n rfl dX7_fleet_26 ?_
          refine J_getS (r := 1) fl_RX7_10 rfl (Or.inl rfl) rfl dX7_fleet_27 ?_
          refine J_aload_n rfl dX7_fleet_30 ?_
          refine J_getS (r := 38) fl_RX7_50 rfl (Or.inl rfl) rfl dX7_fleet_31 ?_
          refine J_iload_n rfl dX7_fleet_34 ?_
          refine J_b0 (J_callV (b1 := 0) (ci := 2) (vs := [vR (some 1), vR (some 38), vI x1]) (rest := []) (Or.inr rfl) ml_RX7_240 rfl (by decide) rfl rfl (Or.inl rfl) (Nat.le_of_ble_eq_true rfl) rfl dX7_fleet_35 (WM_mono K (fun r h1 K => ?_)))
          obtain ⟨u1, rfl, K⟩ := K
          show J _ _ _ _ _ _ _ [vI u1] _
          refine J_istore_n (loc' := [some (vR (some 0)), some (vI x1), some (vI x2), some (vI u1)]) (by decide) rfl dX7_fleet_38 ?_
          refine J_iload_n rfl dX7_fleet_39 ?_
          refine J_iconst (by decide) dX7_fleet_40 ?_
          refine J_icmp_eq (tgt := 49) dX7_fleet_41 (by decide) (fun c => ?_) (fun c => ?_)
          · replace K := K.1 c
            refine J_iload_n rfl dX7_fleet_49 ?_
            exact J_ireturn rfl dX7_fleet_50 K
          · replace K := K.2 c
            refine J_iload_n rfl dX7_fleet_44 ?_
            refine J_iconst (by decide) dX7_fleet_45 ?_
            refine J_icmp_ne (tgt := 51) dX7_fleet_46 (by decide) (fun c => ?_) (fun c => ?_)
            · replace K := K.2 c
              refine J_iload_n rfl dX7_fleet_51 ?_
              refine J_b0 (J_callS (b1 := 0) (vs := [vI u1]) (rest := []) (Or.inl rfl) ml_RX7_244 rfl (by decide) (Nat.le_of_ble_eq_true rfl) rfl dX7_fleet_52 (c_J6_bitCount  K.1 ?_))
              replace K := K.2
              show J _ _ _ _ _ _ _ [vI (pcI u1)] _
              exact J_ireturn rfl dX7_fleet_55 K
            · replace K := K.1 c
              refine J_iload_n rfl dX7_fleet_49 ?_
              exact J_ireturn rfl dX7_fleet_50 K
        · replace K := K.2 c
          refine J_iconst (by decide) dX7_fleet_20 ?_
          exact J_ireturn rfl dX7_fleet_21 K
def Lp_X8_fleet_34 (d b : Nat) (Q : Option AV → AH → Prop)  (y1 : Int) (y2 : Int) (y3 : Int) (y4 : Int) (h : AH) : Prop := J GM (d + 6) b mX8_fleet Q 34 [some (vR (some 0)), some (vI y1), some (vI y2), some (vI y3), some (vI y4), none, none, none, none] [] h
def Lp_X8_fleet_134 (d b : Nat) (Q : Option AV → AH → Prop)  (y1 : Int) (y2 : Int) (y3 : Int) (y4 : Int) (y5 : Int) (y6 : Int) (h : AH) : Prop := J GM (d + 6) b mX8_fleet Q 134 [some (vR (some 0)), some (vI y1), some (vI y2), some (vI y3), some (vI y4), some (vI y5), some (vI y6), none, none] [] h
def Lp_X8_fleet_153 (d b : Nat) (Q : Option AV → AH → Prop)  (y1 : Int) (y2 : Int) (y3 : Int) (y4 : Int) (y5 : Int) (y6 : Int) (y7 : Int) (y8 : Int) (h : AH) : Prop := J GM (d + 6) b mX8_fleet Q 153 [some (vR (some 0)), some (vI y1), some (vI y2), some (vI y3), some (vI y4), some (vI y5), some (vI y6), some (vI y7), some (vI y8)] [] h
set_option maxRecDepth 20000 in
set_option maxHeartbeats 2000000 in
theorem l_X8_fleet_34 {d b : Nat} {Q : Option AV → AH → Prop} {h : AH}  {y1 : Int} {y2 : Int} {y3 : Int} {y4 : Int}  (K : (gi h 2 1 ≤ y4 → Lp_X8_fleet_134 d b Q y1 y2 y3 100000000 0 0 h) ∧ (¬(gi h 2 1 ≤ y4) → R32 (7 + y4) ∧ (0 ≤ 7 + y4 ∧ 7 + y4 < 5540) ∧ (gi h 2 (7 + y4) = (-1) → (0 ≤ y4 ∧ y4 < 8) ∧ ∀ h1, h1 = si h 21 y4 0 → R32 (y4 + 1) ∧ Lp_X8_fleet_34 d b Q y1 y2 (zor y3 0) (y4 + 1) h1) ∧ (¬(gi h 2 (7 + y4) = (-1)) → WM GM (d + 5) 0 mX8_isBarred [vR (some 0), vI y4] h (fun r h2 => ∃ u1, r = some (vI u1) ∧ (u1 = 0 → WM GM (d + 5) 0 mX8_catches [vR (some 0), vI y4, vI 0, vI 99, vI 0] h2 (fun r h4 => ∃ u2, r = some (vI u2) ∧ (0 ≤ y4 ∧ y4 < 8) ∧ ∀ h5, h5 = si h4 21 y4 u2 → R32 (y4 + 1) ∧ Lp_X8_fleet_34 d b Q y1 y2 (zor y3 (zshl 1 y4)) (y4 + 1) h5)) ∧ (¬(u1 = 0) → (0 ≤ y4 ∧ y4 < 8) ∧ ∀ h3, h3 = si h2 21 y4 0 → R32 (y4 + 1) ∧ Lp_X8_fleet_34 d b Q y1 y2 (zor y3 0) (y4 + 1) h3))))) : Lp_X8_fleet_34 d b Q y1 y2 y3 y4 h := by
  unfold Lp_X8_fleet_34
  refine J_iload rfl dX8_fleet_34 ?_
  refine J_aload_n rfl dX8_fleet_36 ?_
  refine J_getS (r := 2) fl_RX8_13 rfl (Or.inl rfl) rfl dX8_fleet_37 ?_
  refine J_iconst (by decide) dX8_fleet_40 ?_
  refine J_iaload (Or.inl rfl) (by decide) dX8_fleet_41 ?_
  refine J_icmp_ge (tgt := 123) dX8_fleet_42 (by decide) (fun c => ?_) (fun c => ?_)
  · replace K := K.1 c
    refine J_ldcw (n := 100000000) (by decide) (by decide) kc_RX8_470 dX8_fleet_123 ?_
    refine J_istore (loc' := [some (vR (some 0)), some (vI y1), some (vI y2), some (vI y3), some (vI 100000000), none, none, none, none]) (by decide) rfl dX8_fleet_126 ?_
    refine J_iconst (by decide) dX8_fleet_128 ?_
    refine J_istore (loc' := [some (vR (some 0)), some (vI y1), some (vI y2), some (vI y3), some (vI 100000000), some (vI 0), none, none, none]) (by decide) rfl dX8_fleet_129 ?_
    refine J_iconst (by decide) dX8_fleet_131 ?_
    refine J_istore (loc' := [some (vR (some 0)), some (vI y1), some (vI y2), some (vI y3), some (vI 100000000), some (vI 0), some (vI 0), none, none]) (by decide) rfl dX8_fleet_132 ?_
    exact J_forget (loc' := [some (vR (some 0)), some (vI y1), some (vI y2), some (vI y3), some (vI 100000000), some (vI 0), some (vI 0), none, none]) (And.intro (Or.inr rfl) (And.intro (Or.inr rfl) (And.intro (Or.inr rfl) (And.intro (Or.inr rfl) (And.intro (Or.inr rfl) (And.intro (Or.inr rfl) (And.intro (Or.inr rfl) (And.intro (Or.inl rfl) (And.intro (Or.inl rfl) True.intro))))))))) K
  · replace K := K.2 c
    refine J_aload_n rfl dX8_fleet_45 ?_
    refine J_getS (r := 2) fl_RX8_13 rfl (Or.inl rfl) rfl dX8_fleet_46 ?_
    refine J_bipush (by decide) (by decide) dX8_fleet_49 ?_
    refine J_iload rfl dX8_fleet_51 ?_
    refine J_iadd K.1 dX8_fleet_53 ?_
    replace K := K.2
    refine J_iaload (Or.inl rfl) K.1 dX8_fleet_54 ?_
    replace K := K.2
    refine J_iconst (by decide) dX8_fleet_55 ?_
    refine J_icmp_eq (tgt := 72) dX8_fleet_56 (by decide) (fun c => ?_) (fun c => ?_)
    · replace K := K.1 c
      refine J_iconst (by decide) dX8_fleet_72 ?_
      refine J_istore (loc' := [some (vR (some 0)), some (vI y1), some (vI y2), some (vI y3), some (vI y4), some (vI 0), none, none, none]) (by decide) rfl dX8_fleet_73 ?_
      refine J_iload_n rfl dX8_fleet_75 ?_
      refine J_iload rfl dX8_fleet_76 ?_
      refine J_if_eq (tgt := 88) dX8_fleet_78 (by decide) (fun _ => ?_) (fun c => absurd c (by decide))
      refine J_iconst (by decide) dX8_fleet_88 ?_
      refine J_ior dX8_fleet_89 ?_
      refine J_istore_n (loc' := [some (vR (some 0)), some (vI y1), some (vI y2), some (vI (zor y3 0)), some (vI y4), some (vI 0), none, none, none]) (by decide) rfl dX8_fleet_90 ?_
      refine J_aload_n rfl dX8_fleet_91 ?_
      refine J_getS (r := 21) fl_RX8_114 rfl (Or.inl rfl) rfl dX8_fleet_92 ?_
      refine J_iload rfl dX8_fleet_95 ?_
      refine J_iload rfl dX8_fleet_97 ?_
      refine J_if_eq (tgt := 115) dX8_fleet_99 (by decide) (fun _ => ?_) (fun c => absurd c (by decide))
      refine J_iconst (by decide) dX8_fleet_115 ?_
      refine J_iastore (Or.inl rfl) K.1 dX8_fleet_116 ?_
      replace K := K.2
      replace K := K _ rfl
      refine J_iinc (loc' := [some (vR (some 0)), some (vI y1), some (vI y2), some (vI (zor y3 0)), some (vI (y4 + 1)), some (vI 0), none, none, none]) (by decide) rfl K.1 rfl dX8_fleet_117 ?_
      replace K := K.2
      refine J_goto (tgt := 34) dX8_fleet_120 (by decide) ?_
      exact J_forget (loc' := [some (vR (some 0)), some (vI y1), some (vI y2), some (vI (zor y3 0)), some (vI (y4 + 1)), none, none, none, none]) (And.intro (Or.inr rfl) (And.intro (Or.inr rfl) (And.intro (Or.inr rfl) (And.intro (Or.inr rfl) (And.intro (Or.inr rfl) (And.intro (Or.inl rfl) (And.intro (Or.inl rfl) (And.intro (Or.inl rfl) (And.intro (Or.inl rfl) True.intro))))))))) K
    · replace K := K.2 c
      refine J_aload_n rfl dX8_fleet_59 ?_
      refine J_iload rfl dX8_fleet_60 ?_
      refine J_b0 (J_callV (b1 := 0) (ci := 8) (vs := [vI y4]) (rest := []) (Or.inl rfl) ml_RX8_206 rfl (by decide) rfl rfl (Or.inl rfl) (Nat.le_of_ble_eq_true rfl) rfl dX8_fleet_62 (WM_mono K (fun r h2 K => ?_)))
      obtain ⟨u1, rfl, K⟩ := K
      show J _ _ _ _ _ _ _ [vI u1] _
      refine J_if_ne (tgt := 72) dX8_fleet_65 (by decide) (fun c => ?_) (fun c => ?_)
      · replace K := K.2 c
        refine J_iconst (by decide) dX8_fleet_72 ?_
        refine J_istore (loc' := [some (vR (some 0)), some (vI y1), some (vI y2), some (vI y3), some (vI y4), some (vI 0), none, none, none]) (by decide) rfl dX8_fleet_73 ?_
        refine J_iload_n rfl dX8_fleet_75 ?_
        refine J_iload rfl dX8_fleet_76 ?_
        refine J_if_eq (tgt := 88) dX8_fleet_78 (by decide) (fun _ => ?_) (fun c => absurd c (by decide))
        refine J_iconst (by decide) dX8_fleet_88 ?_
        refine J_ior dX8_fleet_89 ?_
        refine J_istore_n (loc' := [some (vR (some 0)), some (vI y1), some (vI y2), some (vI (zor y3 0)), some (vI y4), some (vI 0), none, none, none]) (by decide) rfl dX8_fleet_90 ?_
        refine J_aload_n rfl dX8_fleet_91 ?_
        refine J_getS (r := 21) fl_RX8_114 rfl (Or.inl rfl) rfl dX8_fleet_92 ?_
        refine J_iload rfl dX8_fleet_95 ?_
        refine J_iload rfl dX8_fleet_97 ?_
        refine J_if_eq (tgt := 115) dX8_fleet_99 (by decide) (fun _ => ?_) (fun c => absurd c (by decide))
        refine J_iconst (by decide) dX8_fleet_115 ?_
        refine J_iastore (Or.inl rfl) K.1 dX8_fleet_116 ?_
        replace K := K.2
        replace K := K _ rfl
        refine J_iinc (loc' := [some (vR (some 0)), some (vI y1), some (vI y2), some (vI (zor y3 0)), some (vI (y4 + 1)), some (vI 0), none, none, none]) (by decide) rfl K.1 rfl dX8_fleet_117 ?_
        replace K := K.2
        refine J_goto (tgt := 34) dX8_fleet_120 (by decide) ?_
        exact J_forget (loc' := [some (vR (some 0)), some (vI y1), some (vI y2), some (vI (zor y3 0)), some (vI (y4 + 1)), none, none, none, none]) (And.intro (Or.inr rfl) (And.intro (Or.inr rfl) (And.intro (Or.inr rfl) (And.intro (Or.inr rfl) (And.intro (Or.inr rfl) (And.intro (Or.inl rfl) (And.intro (Or.inl rfl) (And.intro (Or.inl rfl) (And.intro (Or.inl rfl) True.intro))))))))) K
      · replace K := K.1 c
        refine J_iconst (by decide) dX8_fleet_68 ?_
        refine J_goto (tgt := 73) dX8_fleet_69 (by decide) ?_
        refine J_istore (loc' := [some (vR (some 0)), some (vI y1), some (vI y2), some (vI y3), some (vI y4), some (vI 1), none, none, none]) (by decide) rfl dX8_fleet_73 ?_
        refine J_iload_n rfl dX8_fleet_75 ?_
        refine J_iload rfl dX8_fleet_76 ?_
        refine J_if_eq (tgt := 88) dX8_fleet_78 (by decide) (fun c => absurd c (by decide)) (fun _ => ?_)
        refine J_iconst (by decide) dX8_fleet_81 ?_
        refine J_iload rfl dX8_fleet_82 ?_
        refine J_ishl dX8_fleet_84 ?_
        refine J_goto (tgt := 89) dX8_fleet_85 (by decide) ?_
        refine J_ior dX8_fleet_89 ?_
        refine J_istore_n (loc' := [some (vR (some 0)), some (vI y1), some (vI y2), some (vI (zor y3 (zshl 1 y4))), some (vI y4), some (vI 1), none, none, none]) (by decide) rfl dX8_fleet_90 ?_
        refine J_aload_n rfl dX8_fleet_91 ?_
        refine J_getS (r := 21) fl_RX8_114 rfl (Or.inl rfl) rfl dX8_fleet_92 ?_
        refine J_iload rfl dX8_fleet_95 ?_
        refine J_iload rfl dX8_fleet_97 ?_
        refine J_if_eq (tgt := 115) dX8_fleet_99 (by decide) (fun c => absurd c (by decide)) (fun _ => ?_)
        refine J_aload_n rfl dX8_fleet_102 ?_
        refine J_iload rfl dX8_fleet_103 ?_
        refine J_iconst (by decide) dX8_fleet_105 ?_
        refine J_bipush (by decide) (by decide) dX8_fleet_106 ?_
        refine J_iconst (by decide) dX8_fleet_108 ?_
        refine J_b0 (J_callV (b1 := 0) (ci := 8) (vs := [vI y4, vI 0, vI 99, vI 0]) (rest := [vI y4, vR (some 21)]) (Or.inl rfl) ml_RX8_229 rfl (by decide) rfl rfl (Or.inl rfl) (Nat.le_of_ble_eq_true rfl) rfl dX8_fleet_109 (WM_mono K (fun r h4 K => ?_)))
        obtain ⟨u2, rfl, K⟩ := K
        show J _ _ _ _ _ _ _ [vI u2, vI y4, vR (some 21)] _
        refine J_goto (tgt := 116) dX8_fleet_112 (by decide) ?_
        refine J_iastore (Or.inl rfl) K.1 dX8_fleet_116 ?_
        replace K := K.2
        replace K := K _ rfl
        refine J_iinc (loc' := [some (vR (some 0)), some (vI y1), some (vI y2), some (vI (zor y3 (zshl 1 y4))), some (vI (y4 + 1)), some (vI 1), none, none, none]) (by decide) rfl K.1 rfl dX8_fleet_117 ?_
        replace K := K.2
        refine J_goto (tgt := 34) dX8_fleet_120 (by decide) ?_
        exact J_forget (loc' := [some (vR (some 0)), some (vI y1), some (vI y2), some (vI (zor y3 (zshl 1 y4))), some (vI (y4 + 1)), none, none, none, none]) (And.intro (Or.inr rfl) (And.intro (Or.inr rfl) (And.intro (Or.inr rfl) (And.intro (Or.inr rfl) (And.intro (Or.inr rfl) (And.intro (Or.inl rfl) (And.intro (Or.inl rfl) (And.intro (Or.inl rfl) (And.intro (Or.inl rfl) True.intro))))))))) K
set_option maxRecDepth 20000 in
set_option maxHeartbeats 2000000 in
theorem l_X8_fleet_134 {d b : Nat} {Q : Option AV → AH → Prop} {h : AH}  {y1 : Int} {y2 : Int} {y3 : Int} {y4 : Int} {y5 : Int} {y6 : Int}  (K : (zshl 1 (gi h 2 1) ≤ y6 → (y4 = 100000000 → Q (some (vI (-1))) h) ∧ (¬(y4 = 100000000) → (y2 = 0 → Q (some (vI y4)) h) ∧ (¬(y2 = 0) → Q (some (vI y5)) h))) ∧ (¬(zshl 1 (gi h 2 1) ≤ y6) → Lp_X8_fleet_153 d b Q y1 y2 y3 y4 y5 y6 0 0 h)) : Lp_X8_fleet_134 d b Q y1 y2 y3 y4 y5 y6 h := by
  unfold Lp_X8_fleet_134
  refine J_iload rfl dX8_fleet_134 ?_
  refine J_iconst (by decide) dX8_fleet_136 ?_
  refine J_aload_n rfl dX8_fleet_137 ?_
  refine J_getS (r := 2) fl_RX8_13 rfl (Or.inl rfl) rfl dX8_fleet_138 ?_
  refine J_iconst (by decide) dX8_fleet_141 ?_
  refine J_iaload (Or.inl rfl) (by decide) dX8_fleet_142 ?_
  refine J_ishl dX8_fleet_143 ?_
  refine J_icmp_ge (tgt := 238) dX8_fleet_144 (by decide) (fun c => ?_) (fun c => ?_)
  · replace K := K.1 c
    refine J_iload rfl dX8_fleet_238 ?_
    refine J_ldcw (n := 100000000) (by decide) (by decide) kc_RX8_470 dX8_fleet_240 ?_
    refine J_icmp_ne (tgt := 250) dX8_fleet_243 (by decide) (fun c => ?_) (fun c => ?_)
    · replace K := K.2 c
      refine J_iload_n rfl dX8_fleet_250 ?_
      refine J_if_ne (tgt := 259) dX8_fleet_251 (by decide) (fun c => ?_) (fun c => ?_)
      · replace K := K.2 c
        refine J_iload rfl dX8_fleet_259 ?_
        exact J_ireturn rfl dX8_fleet_261 K
      · replace K := K.1 c
        refine J_iload rfl dX8_fleet_254 ?_
        refine J_goto (tgt := 261) dX8_fleet_256 (by decide) ?_
        exact J_ireturn rfl dX8_fleet_261 K
    · replace K := K.1 c
      refine J_iconst (by decide) dX8_fleet_246 ?_
      refine J_goto (tgt := 261) dX8_fleet_247 (by decide) ?_
      exact J_ireturn rfl dX8_fleet_261 K
  · replace K := K.2 c
    refine J_iconst (by decide) dX8_fleet_147 ?_
    refine J_istore (loc' := [some (vR (some 0)), some (vI y1), some (vI y2), some (vI y3), some (vI y4), some (vI y5), some (vI y6), some (vI 0), none]) (by decide) rfl dX8_fleet_148 ?_
    refine J_iconst (by decide) dX8_fleet_150 ?_
    refine J_istore (loc' := [some (vR (some 0)), some (vI y1), some (vI y2), some (vI y3), some (vI y4), some (vI y5), some (vI y6), some (vI 0), some (vI 0)]) (by decide) rfl dX8_fleet_151 ?_
    exact J_forget (loc' := [some (vR (some 0)), some (vI y1), some (vI y2), some (vI y3), some (vI y4), some (vI y5), some (vI y6), some (vI 0), some (vI 0)]) (And.intro (Or.inr rfl) (And.intro (Or.inr rfl) (And.intro (Or.inr rfl) (And.intro (Or.inr rfl) (And.intro (Or.inr rfl) (And.intro (Or.inr rfl) (And.intro (Or.inr rfl) (And.intro (Or.inr rfl) (And.intro (Or.inr rfl) True.intro))))))))) K
set_option maxRecDepth 20000 in
set_option maxHeartbeats 2000000 in
theorem l_X8_fleet_153 {d b : Nat} {Q : Option AV → AH → Prop} {h : AH}  {y1 : Int} {y2 : Int} {y3 : Int} {y4 : Int} {y5 : Int} {y6 : Int} {y7 : Int} {y8 : Int}  (K : (gi h 2 1 ≤ y8 → (zand y6 (zxor y3 (-1)) = 0 → (y7 < y1 → R32 (y6 + 1) ∧ Lp_X8_fleet_134 d b Q y1 y2 y3 y4 y5 (y6 + 1) h) ∧ (¬(y7 < y1) → ((0 : Int) ≤ y6 ∧ (y6 : Int) < 33554432) ∧ (y4 ≤ pcI y6 → R32 (y6 + 1) ∧ Lp_X8_fleet_134 d b Q y1 y2 y3 y4 y5 (y6 + 1) h) ∧ (¬(y4 ≤ pcI y6) → ((0 : Int) ≤ y6 ∧ (y6 : Int) < 33554432) ∧ R32 (y6 + 1) ∧ Lp_X8_fleet_134 d b Q y1 y2 y3 (pcI y6) y6 (y6 + 1) h))) ∧ (¬(zand y6 (zxor y3 (-1)) = 0) → R32 (y6 + 1) ∧ Lp_X8_fleet_134 d b Q y1 y2 y3 y4 y5 (y6 + 1) h)) ∧ (¬(gi h 2 1 ≤ y8) → (zand (zshr y6 y8) 1 = 1 → (0 ≤ y8 ∧ y8 < 8) ∧ R32 (y7 + (gi h 21 y8)) ∧ R32 (y8 + 1) ∧ Lp_X8_fleet_153 d b Q y1 y2 y3 y4 y5 y6 (y7 + (gi h 21 y8)) (y8 + 1) h) ∧ (¬(zand (zshr y6 y8) 1 = 1) → R32 (y7 + 0) ∧ R32 (y8 + 1) ∧ Lp_X8_fleet_153 d b Q y1 y2 y3 y4 y5 y6 (y7 + 0) (y8 + 1) h))) : Lp_X8_fleet_153 d b Q y1 y2 y3 y4 y5 y6 y7 y8 h := by
  unfold Lp_X8_fleet_153
  refine J_iload rfl dX8_fleet_153 ?_
  refine J_aload_n rfl dX8_fleet_155 ?_
  refine J_getS (r := 2) fl_RX8_13 rfl (Or.inl rfl) rfl dX8_fleet_156 ?_
  refine J_iconst (by decide) dX8_fleet_159 ?_
  refine J_iaload (Or.inl rfl) (by decide) dX8_fleet_160 ?_
  refine J_icmp_ge (tgt := 196) dX8_fleet_161 (by decide) (fun c => ?_) (fun c => ?_)
  · replace K := K.1 c
    refine J_iload rfl dX8_fleet_196 ?_
    refine J_iload_n rfl dX8_fleet_198 ?_
    refine J_iconst (by decide) dX8_fleet_199 ?_
    refine J_ixor dX8_fleet_200 ?_
    refine J_iand dX8_fleet_201 ?_
    refine J_if_ne (tgt := 232) dX8_fleet_202 (by decide) (fun c => ?_) (fun c => ?_)
    · replace K := K.2 c
      refine J_iinc (loc' := [some (vR (some 0)), some (vI y1), some (vI y2), some (vI y3), some (vI y4), some (vI y5), some (vI (y6 + 1)), some (vI y7), some (vI y8)]) (by decide) rfl K.1 rfl dX8_fleet_232 ?_
      replace K := K.2
      refine J_goto (tgt := 134) dX8_fleet_235 (by decide) ?_
      exact J_forget (loc' := [some (vR (some 0)), some (vI y1), some (vI y2), some (vI y3), some (vI y4), some (vI y5), some (vI (y6 + 1)), none, none]) (And.intro (Or.inr rfl) (And.intro (Or.inr rfl) (And.intro (Or.inr rfl) (And.intro (Or.inr rfl) (And.intro (Or.inr rfl) (And.intro (Or.inr rfl) (And.intro (Or.inr rfl) (And.intro (Or.inl rfl) (And.intro (Or.inl rfl) True.intro))))))))) K
    · replace K := K.1 c
      refine J_iload rfl dX8_fleet_205 ?_
      refine J_iload_n rfl dX8_fleet_207 ?_
      refine J_icmp_lt (tgt := 232) dX8_fleet_208 (by decide) (fun c => ?_) (fun c => ?_)
      · replace K := K.1 c
        refine J_iinc (loc' := [some (vR (some 0)), some (vI y1), some (vI y2), some (vI y3), some (vI y4), some (vI y5), some (vI (y6 + 1)), some (vI y7), some (vI y8)]) (by decide) rfl K.1 rfl dX8_fleet_232 ?_
        replace K := K.2
        refine J_goto (tgt := 134) dX8_fleet_235 (by decide) ?_
        exact J_forget (loc' := [some (vR (some 0)), some (vI y1), some (vI y2), some (vI y3), some (vI y4), some (vI y5), some (vI (y6 + 1)), none, none]) (And.intro (Or.inr rfl) (And.intro (Or.inr rfl) (And.intro (Or.inr rfl) (And.intro (Or.inr rfl) (And.intro (Or.inr rfl) (And.intro (Or.inr rfl) (And.intro (Or.inr rfl) (And.intro (Or.inl rfl) (And.intro (Or.inl rfl) True.intro))))))))) K
      · replace K := K.2 c
        refine J_iload rfl dX8_fleet_211 ?_
        refine J_b0 (J_callS (b1 := 0) (vs := [vI y6]) (rest := []) (Or.inl rfl) ml_RX8_474 rfl (by decide) (Nat.le_of_ble_eq_true rfl) rfl dX8_fleet_213 (c_X8_ones  K.1 ?_))
        replace K := K.2
        show J _ _ _ _ _ _ _ [vI (pcI y6)] _
        refine J_iload rfl dX8_fleet_216 ?_
        refine J_icmp_ge (tgt := 232) dX8_fleet_218 (by decide) (fun c => ?_) (fun c => ?_)
        · replace K := K.1 c
          refine J_iinc (loc' := [some (vR (some 0)), some (vI y1), some (vI y2), some (vI y3), some (vI y4), some (vI y5), some (vI (y6 + 1)), some (vI y7), some (vI y8)]) (by decide) rfl K.1 rfl dX8_fleet_232 ?_
          replace K := K.2
          refine J_goto (tgt := 134) dX8_fleet_235 (by decide) ?_
          exact J_forget (loc' := [some (vR (some 0)), some (vI y1), some (vI y2), some (vI y3), some (vI y4), some (vI y5), some (vI (y6 + 1)), none, none]) (And.intro (Or.inr rfl) (And.intro (Or.inr rfl) (And.intro (Or.inr rfl) (And.intro (Or.inr rfl) (And.intro (Or.inr rfl) (And.intro (Or.inr rfl) (And.intro (Or.inr rfl) (And.intro (Or.inl rfl) (And.intro (Or.inl rfl) True.intro))))))))) K
        · replace K := K.2 c
          refine J_iload rfl dX8_fleet_221 ?_
          refine J_b0 (J_callS (b1 := 0) (vs := [vI y6]) (rest := []) (Or.inl rfl) ml_RX8_474 rfl (by decide) (Nat.le_of_ble_eq_true rfl) rfl dX8_fleet_223 (c_X8_ones  K.1 ?_))
          replace K := K.2
          show J _ _ _ _ _ _ _ [vI (pcI y6)] _
          refine J_istore (loc' := [some (vR (some 0)), some (vI y1), some (vI y2), some (vI y3), some (vI (pcI y6)), some (vI y5), some (vI y6), some (vI y7), some (vI y8)]) (by decide) rfl dX8_fleet_226 ?_
          refine J_iload rfl dX8_fleet_228 ?_
          refine J_istore (loc' := [some (vR (some 0)), some (vI y1), some (vI y2), some (vI y3), some (vI (pcI y6)), some (vI y6), some (vI y6), some (vI y7), some (vI y8)]) (by decide) rfl dX8_fleet_230 ?_
          refine J_iinc (loc' := [some (vR (some 0)), some (vI y1), some (vI y2), some (vI y3), some (vI (pcI y6)), some (vI y6), some (vI (y6 + 1)), some (vI y7), some (vI y8)]) (by decide) rfl K.1 rfl dX8_fleet_232 ?_
          replace K := K.2
          refine J_goto (tgt := 134) dX8_fleet_235 (by decide) ?_
          exact J_forget (loc' := [some (vR (some 0)), some (vI y1), some (vI y2), some (vI y3), some (vI (pcI y6)), some (vI y6), some (vI (y6 + 1)), none, none]) (And.intro (Or.inr rfl) (And.intro (Or.inr rfl) (And.intro (Or.inr rfl) (And.intro (Or.inr rfl) (And.intro (Or.inr rfl) (And.intro (Or.inr rfl) (And.intro (Or.inr rfl) (And.intro (Or.inl rfl) (And.intro (Or.inl rfl) True.intro))))))))) K
  · replace K := K.2 c
    refine J_iload rfl dX8_fleet_164 ?_
    refine J_iload rfl dX8_fleet_166 ?_
    refine J_iload rfl dX8_fleet_168 ?_
    refine J_b0 (J_callS (b1 := 0) (vs := [vI y6, vI y8]) (rest := [vI y7]) (Or.inl rfl) ml_RX8_471 rfl (by decide) (Nat.le_of_ble_eq_true rfl) rfl dX8_fleet_170 (c_X8_is   ?_))
    show J _ _ _ _ _ _ _ [vI (b2i (zand (zshr y6 y8) 1 = 1)), vI y7] _
    refine J_if_eq (tgt := 186) dX8_fleet_173 (by decide) (fun c => ?_) (fun c => ?_)
    · replace K := K.2 (b2i_0.mp c)
      refine J_iconst (by decide) dX8_fleet_186 ?_
      refine J_iadd K.1 dX8_fleet_187 ?_
      replace K := K.2
      refine J_istore (loc' := [some (vR (some 0)), some (vI y1), some (vI y2), some (vI y3), some (vI y4), some (vI y5), some (vI y6), some (vI (y7 + 0)), some (vI y8)]) (by decide) rfl dX8_fleet_188 ?_
      refine J_iinc (loc' := [some (vR (some 0)), some (vI y1), some (vI y2), some (vI y3), some (vI y4), some (vI y5), some (vI y6), some (vI (y7 + 0)), some (vI (y8 + 1))]) (by decide) rfl K.1 rfl dX8_fleet_190 ?_
      replace K := K.2
      refine J_goto (tgt := 153) dX8_fleet_193 (by decide) ?_
      exact J_forget (loc' := [some (vR (some 0)), some (vI y1), some (vI y2), some (vI y3), some (vI y4), some (vI y5), some (vI y6), some (vI (y7 + 0)), some (vI (y8 + 1))]) (And.intro (Or.inr rfl) (And.intro (Or.inr rfl) (And.intro (Or.inr rfl) (And.intro (Or.inr rfl) (And.intro (Or.inr rfl) (And.intro (Or.inr rfl) (And.intro (Or.inr rfl) (And.intro (Or.inr rfl) (And.intro (Or.inr rfl) True.intro))))))))) K
    · replace K := K.1 (b2i_n0.mp c)
      refine J_aload_n rfl dX8_fleet_176 ?_
      refine J_getS (r := 21) fl_RX8_114 rfl (Or.inl rfl) rfl dX8_fleet_177 ?_
      refine J_iload rfl dX8_fleet_180 ?_
      refine J_iaload (Or.inl rfl) K.1 dX8_fleet_182 ?_
      replace K := K.2
      refine J_goto (tgt := 187) dX8_fleet_183 (by decide) ?_
      refine J_iadd K.1 dX8_fleet_187 ?_
      replace K := K.2
      refine J_istore (loc' := [some (vR (some 0)), some (vI y1), some (vI y2), some (vI y3), some (vI y4), some (vI y5), some (vI y6), some (vI (y7 + (gi h 21 y8))), some (vI y8)]) (by decide) rfl dX8_fleet_188 ?_
      refine J_iinc (loc' := [some (vR (some 0)), some (vI y1), some (vI y2), some (vI y3), some (vI y4), some (vI y5), some (vI y6), some (vI (y7 + (gi h 21 y8))), some (vI (y8 + 1))]) (by decide) rfl K.1 rfl dX8_fleet_190 ?_
      replace K := K.2
      refine J_goto (tgt := 153) dX8_fleet_193 (by decide) ?_
      exact J_forget (loc' := [some (vR (some 0)), some (vI y1), some (vI y2), some (vI y3), some (vI y4), some (vI y5), some (vI y6), some (vI (y7 + (gi h 21 y8))), some (vI (y8 + 1))]) (And.intro (Or.inr rfl) (And.intro (Or.inr rfl) (And.intro (Or.inr rfl) (And.intro (Or.inr rfl) (And.intro (Or.inr rfl) (And.intro (Or.inr rfl) (And.intro (Or.inr rfl) (And.intro (Or.inr rfl) (And.intro (Or.inr rfl) True.intro))))))))) K
set_option maxRecDepth 20000 in
set_option maxHeartbeats 2000000 in
theorem w_X8_fleet {d b : Nat} {Q : Option AV → AH → Prop} {h : AH} {x1 : Int} {x2 : Int}  (K : R32 x1 → R32 x2 → ∀ h1, h1 = si h 0 0 0 → (0 ≤ x1 ∧ x1 ≤ 9999 → (0 ≤ x2 ∧ x2 ≤ 1 → Lp_X8_fleet_34 d b Q x1 x2 0 0 h1) ∧ (¬(0 ≤ x2 ∧ x2 ≤ 1) → Q (some (vI (-1))) h1)) ∧ (¬(0 ≤ x1 ∧ x1 ≤ 9999) → Q (some (vI (-1))) h1)) : WM GM (d + 6) b mX8_fleet [vR (some 0), vI x1, vI x2] h Q := by
  refine WM_introE (loc' := [some (vR (some 0)), some (vI x1), some (vI x2), none, none, none, none, none, none]) rfl (by decide) (Nat.le_of_ble_eq_true rfl) ?_
  refine J_rgl (i := 1) rfl (fun r1 => ?_)
  replace K := K r1
  refine J_rgl (i := 2) rfl (fun r2 => ?_)
  replace K := K r2
  refine J_aload_n rfl dX8_fleet_0 ?_
  refine J_iconst (by decide) dX8_fleet_1 ?_
  refine J_putI fl_RX8_161 rfl (Or.inl rfl) dX8_fleet_2 ?_
  replace K := K _ rfl
  refine J_iload_n rfl dX8_fleet_5 ?_
  refine J_i2l dX8_fleet_6 ?_
  refine J_lconst (x := 0) (by decide) (by decide) dX8_fleet_7 ?_
  refine J_ldc2 (n := 9999) (by decide) (by decide) kc_RX8_468 dX8_fleet_8 ?_
  refine J_b0 (J_callS (b1 := 0) (vs := [vL x1, vL 0, vL 9999]) (rest := []) (Or.inl rfl) ml_RX8_181 rfl (by decide) (Nat.le_of_ble_eq_true rfl) rfl dX8_fleet_11 (c_X8_in   ?_))
  show J _ _ _ _ _ _ _ [vI (b2i (0 ≤ x1 ∧ x1 ≤ 9999))] _
  refine J_if_eq (tgt := 27) dX8_fleet_14 (by decide) (fun c => ?_) (fun c => ?_)
  · replace K := K.2 (b2i_0.mp c)
    refine J_iconst (by decide) dX8_fleet_27 ?_
    exact J_ireturn rfl dX8_fleet_28 K
  · replace K := K.1 (b2i_n0.mp c)
    refine J_iload_n rfl dX8_fleet_17 ?_
    refine J_i2l dX8_fleet_18 ?_
    refine J_lconst (x := 0) (by decide) (by decide) dX8_fleet_19 ?_
    refine J_lconst (x := 1) (by decide) (by decide) dX8_fleet_20 ?_
    refine J_b0 (J_callS (b1 := 0) (vs := [vL x2, vL 0, vL 1]) (rest := []) (Or.inl rfl) ml_RX8_181 rfl (by decide) (Nat.le_of_ble_eq_true rfl) rfl dX8_fleet_21 (c_X8_in   ?_))
    show J _ _ _ _ _ _ _ [vI (b2i (0 ≤ x2 ∧ x2 ≤ 1))] _
    refine J_if_ne (tgt := 29) dX8_fleet_24 (by decide) (fun c => ?_) (fun c => ?_)
    · replace K := K.1 (b2i_n0.mp c)
      refine J_iconst (by decide) dX8_fleet_29 ?_
      refine J_istore_n (loc' := [some (vR (some 0)), some (vI x1), some (vI x2), some (vI 0), none, none, none, none, none]) (by decide) rfl dX8_fleet_30 ?_
      refine J_iconst (by decide) dX8_fleet_31 ?_
      refine J_istore (loc' := [some (vR (some 0)), some (vI x1), some (vI x2), some (vI 0), some (vI 0), none, none, none, none]) (by decide) rfl dX8_fleet_32 ?_
      exact J_forget (loc' := [some (vR (some 0)), some (vI x1), some (vI x2), some (vI 0), some (vI 0), none, none, none, none]) (And.intro (Or.inr rfl) (And.intro (Or.inr rfl) (And.intro (Or.inr rfl) (And.intro (Or.inr rfl) (And.intro (Or.inr rfl) (And.intro (Or.inl rfl) (And.intro (Or.inl rfl) (And.intro (Or.inl rfl) (And.intro (Or.inl rfl) True.intro))))))))) K
    · replace K := K.2 (b2i_0.mp c)
      refine J_iconst (by decide) dX8_fleet_27 ?_
      exact J_ireturn rfl dX8_fleet_28 K
