set_option maxRecDepth 20000 in
set_option maxHeartbeats 2000000 in
theorem w_X8_in {d b : Nat} {Q : Option AV → AH → Prop} {h : AH} {v : Int} {lo : Int} {hi : Int}  (K : (v < lo → Q (some (vI 0)) h) ∧ (¬(v < lo) → (hi < v → Q (some (vI 0)) h) ∧ (¬(hi < v) → Q (some (vI 1)) h))) : WM GM d b mX8_in [vL v, vL lo, vL hi] h Q := by
  refine WM_introE (loc' := [some (vL v), none, some (vL lo), none, some (vL hi), none]) rfl (by decide) (Nat.le_of_ble_eq_true rfl) ?_
  refine J_lload_n rfl dX8_in_0 ?_
  refine J_lload_n rfl dX8_in_1 ?_
  refine J_lcmp dX8_in_2 ?_
  refine J_if_lt (tgt := 17) dX8_in_3 (by decide) (fun c => ?_) (fun c => ?_)
  · replace K := K.1 (zc_lt.mp c)
    refine J_iconst (by decide) dX8_in_17 ?_
    exact J_zreturn ⟨rfl, by decide⟩ dX8_in_18 K
  · replace K := K.2 (fun z => c (zc_lt.mpr z))
    refine J_lload_n rfl dX8_in_6 ?_
    refine J_lload rfl dX8_in_7 ?_
    refine J_lcmp dX8_in_9 ?_
    refine J_if_gt (tgt := 17) dX8_in_10 (by decide) (fun c => ?_) (fun c => ?_)
    · replace K := K.1 (zc_gt.mp c)
      refine J_iconst (by decide) dX8_in_17 ?_
      exact J_zreturn ⟨rfl, by decide⟩ dX8_in_18 K
    · replace K := K.2 (fun z => c (zc_gt.mpr z))
      refine J_iconst (by decide) dX8_in_13 ?_
      refine J_goto (tgt := 18) dX8_in_14 (by decide) ?_
      exact J_zreturn ⟨rfl, by decide⟩ dX8_in_18 K
def Lp_X0_doorIn_2 (d b : Nat) (Q : Option AV → AH → Prop) (o : Nat) (y1 : Int) (y2 : Int) (h : AH) : Prop := J GX d b mX0_doorIn Q 2 [some (vR (some o)), some (vI y1), some (vI y2)] [] h
set_option maxRecDepth 20000 in
set_option maxHeartbeats 2000000 in
theorem l_X0_doorIn_2 {d b : Nat} {Q : Option AV → AH → Prop} {h : AH} {o : Nat} {y1 : Int} {y2 : Int} (ho : isl o) (K : (gi h o 2 ≤ y2 → Q (some (vI (-1))) h) ∧ (¬(gi h o 2 ≤ y2) → (0 ≤ y2 ∧ y2 < 8) ∧ (gi h (o + 6) y2 = y1 → Q (some (vI y2)) h) ∧ (¬(gi h (o + 6) y2 = y1) → R32 (y2 + 1) ∧ Lp_X0_doorIn_2 d b Q o y1 (y2 + 1) h))) : Lp_X0_doorIn_2 d b Q o y1 y2 h := by
  unfold Lp_X0_doorIn_2
  refine J_iload_n rfl dX0_doorIn_2 ?_
  refine J_aload_n rfl dX0_doorIn_3 ?_
  refine J_getI fl_RX0_19 rfl (Or.inl (gx_isl ho)) dX0_doorIn_4 ?_
  refine J_icmp_ge (tgt := 28) dX0_doorIn_7 (by decide) (fun c => ?_) (fun c => ?_)
  · replace K := K.1 c
    refine J_iconst (by decide) dX0_doorIn_28 ?_
    exact J_ireturn rfl dX0_doorIn_29 K
  · replace K := K.2 c
    refine J_aload_n rfl dX0_doorIn_10 ?_
    refine J_getS (r := o + 6) fl_RX0_34 rfl (Or.inl (gx_isl ho)) (gx_r6 ho) dX0_doorIn_11 ?_
    refine J_iload_n rfl dX0_doorIn_14 ?_
    refine J_iaload (Or.inl (gx_a6 ho)) K.1 dX0_doorIn_15 ?_
    replace K := K.2
    refine J_iload_n rfl dX0_doorIn_16 ?_
    refine J_icmp_ne (tgt := 22) dX0_doorIn_17 (by decide) (fun c => ?_) (fun c => ?_)
    · replace K := K.2 c
      refine J_iinc (loc' := [some (vR (some o)), some (vI y1), some (vI (y2 + 1))]) (by decide) rfl K.1 rfl dX0_doorIn_22 ?_
      replace K := K.2
      refine J_goto (tgt := 2) dX0_doorIn_25 (by decide) ?_
      exact J_forget (loc' := [some (vR (some o)), some (vI y1), some (vI (y2 + 1))]) (And.intro (Or.inr rfl) (And.intro (Or.inr rfl) (And.intro (Or.inr rfl) True.intro))) K
    · replace K := K.1 c
      refine J_iload_n rfl dX0_doorIn_20 ?_
      exact J_ireturn rfl dX0_doorIn_21 K
set_option maxRecDepth 20000 in
set_option maxHeartbeats 2000000 in
theorem w_X0_doorIn {d b : Nat} {Q : Option AV → AH → Prop} {h : AH} {o : Nat} {x1 : Int} (ho : isl o) (K : Lp_X0_doorIn_2 d b Q o x1 0 h) : WM GX d b mX0_doorIn [vR (some o), vI x1] h Q := by
  refine WM_introE (loc' := [some (vR (some o)), some (vI x1), none]) rfl (by decide) (Nat.le_of_ble_eq_true rfl) ?_
  refine J_iconst (by decide) dX0_doorIn_0 ?_
  refine J_istore_n (loc' := [some (vR (some o)), some (vI x1), some (vI 0)]) (by decide) rfl dX0_doorIn_1 ?_
  exact J_forget (loc' := [some (vR (some o)), some (vI x1), some (vI 0)]) (And.intro (Or.inr rfl) (And.intro (Or.inr rfl) (And.intro (Or.inr rfl) True.intro))) K
set_option maxRecDepth 20000 in
set_option maxHeartbeats 2000000 in
theorem w_X7_refuse {d b : Nat} {Q : Option AV → AH → Prop} {h : AH} {x1 : Int}  (K : ∀ h1, h1 = si h 0 14 x1 → (x1 = (-1) → R32 ((gi h 50 0) + 1) ∧ ∀ h6, h6 = si h1 50 0 ((gi h 50 0) + 1) → Q (some (vI x1)) h6) ∧ (¬(x1 = (-1)) → (x1 = (-2) → R32 ((gi h 50 1) + 1) ∧ ∀ h5, h5 = si h1 50 1 ((gi h 50 1) + 1) → Q (some (vI x1)) h5) ∧ (¬(x1 = (-2)) → (x1 = (-3) → R32 ((gi h 50 2) + 1) ∧ ∀ h4, h4 = si h1 50 2 ((gi h 50 2) + 1) → Q (some (vI x1)) h4) ∧ (¬(x1 = (-3)) → (x1 = (-5) → R32 ((gi h 50 3) + 1) ∧ ∀ h3, h3 = si h1 50 3 ((gi h 50 3) + 1) → Q (some (vI x1)) h3) ∧ (¬(x1 = (-5)) → (x1 = (-6) → R32 ((gi h 50 4) + 1) ∧ ∀ h2, h2 = si h1 50 4 ((gi h 50 4) + 1) → Q (some (vI x1)) h2) ∧ (¬(x1 = (-6)) → Q (some (vI x1)) h1)))))) : WM GX d b mX7_refuse [vR (some 0), vI x1] h Q := by
  refine WM_introE (loc' := [some (vR (some 0)), some (vI x1)]) rfl (by decide) (Nat.le_of_ble_eq_true rfl) ?_
  refine J_aload_n rfl dX7_refuse_0 ?_
  refine J_iload_n rfl dX7_refuse_1 ?_
  refine J_putI fl_RX7_79 rfl (Or.inl rfl) dX7_refuse_2 ?_
  replace K := K _ rfl
  refine J_iload_n rfl dX7_refuse_5 ?_
  refine J_iconst (by decide) dX7_refuse_6 ?_
  refine J_icmp_ne (tgt := 23) dX7_refuse_7 (by decide) (fun c => ?_) (fun c => ?_)
  · replace K := K.2 c
    refine J_iload_n rfl dX7_refuse_23 ?_
    refine J_bipush (by decide) (by decide) dX7_refuse_24 ?_
    refine J_icmp_ne (tgt := 42) dX7_refuse_26 (by decide) (fun c => ?_) (fun c => ?_)
    · replace K := K.2 c
      refine J_iload_n rfl dX7_refuse_42 ?_
      refine J_bipush (by decide) (by decide) dX7_refuse_43 ?_
      refine J_icmp_ne (tgt := 61) dX7_refuse_45 (by decide) (fun c => ?_) (fun c => ?_)
      · replace K := K.2 c
        refine J_iload_n rfl dX7_refuse_61 ?_
        refine J_bipush (by decide) (by decide) dX7_refuse_62 ?_
        refine J_icmp_ne (tgt := 80) dX7_refuse_64 (by decide) (fun c => ?_) (fun c => ?_)
        · replace K := K.2 c
          refine J_iload_n rfl dX7_refuse_80 ?_
          refine J_bipush (by decide) (by decide) dX7_refuse_81 ?_
          refine J_icmp_ne (tgt := 96) dX7_refuse_83 (by decide) (fun c => ?_) (fun c => ?_)
          · replace K := K.2 c
            refine J_iload_n rfl dX7_refuse_96 ?_
            exact J_ireturn rfl dX7_refuse_97 K
          · replace K := K.1 c
            refine J_aload_n rfl dX7_refuse_86 ?_
            refine J_getS (r := 50) fl_RX7_82 rfl (Or.inl rfl) rfl dX7_refuse_87 ?_
            refine J_iconst (by decide) dX7_refuse_90 ?_
            refine J_dup2 rfl rfl dX7_refuse_91 ?_
            refine J_ialoade (v := gi h 50 4) (Or.inl rfl) (by decide) (gi_no (by decide)) dX7_refuse_92 ?_
            refine J_iconst (by decide) dX7_refuse_93 ?_
            refine J_iadd K.1 dX7_refuse_94 ?_
            replace K := K.2
            refine J_iastore (Or.inl rfl) (by decide) dX7_refuse_95 ?_
            replace K := K _ rfl
            refine J_iload_n rfl dX7_refuse_96 ?_
            e
