set_option maxRecDepth 20000 in
set_option maxHeartbeats 2000000 in
theorem w_X5_told {d b : Nat} {Q : Option AV → AH → Prop} {h : AH} {t : Nat} {x1 : Int} {x2 : Int} (kt : Kd GX h t (.inl 5)) (K : R32 (x1 * 5) ∧ R32 ((x1 * 5) + x2) ∧ ((x1 * 5) + x2 < 0 → Q (some (vI (-1))) h) ∧ (¬((x1 * 5) + x2 < 0) → ∃ a1 n1, rf h t 1 = some a1 ∧ Kd GX h a1 (.inr (0, n1)) ∧ n1 ≤ 2147483647 ∧ ((n1 : Int) ≤ (x1 * 5) + x2 → Q (some (vI (-1))) h) ∧ (¬((n1 : Int) ≤ (x1 * 5) + x2) → ∃ a2 n2, rf h t 1 = some a2 ∧ Kd GX h a2 (.inr (0, n2)) ∧ (0 ≤ (x1 * 5) + x2 ∧ (x1 * 5) + x2 < n2) ∧ Q (some (vI (gi h a2 ((x1 * 5) + x2)))) h))) : WM GX d b mX5_told [vR (some t), vI x1, vI x2] h Q := by
  refine WM_introE (loc' := [some (vR (some t)), some (vI x1), some (vI x2), none]) rfl (by decide) (Nat.le_of_ble_eq_true rfl) ?_
  refine J_iload_n rfl dX5_told_0 ?_
  refine J_iconst (by decide) dX5_told_1 ?_
  refine J_imul K.1 dX5_told_2 ?_
  replace K := K.2
  refine J_iload_n rfl dX5_told_3 ?_
  refine J_iadd K.1 dX5_told_4 ?_
  replace K := K.2
  refine J_istore_n (loc' := [some (vR (some t)), some (vI x1), some (vI x2), some (vI ((x1 * 5) + x2))]) (by decide) rfl dX5_told_5 ?_
  refine J_iload_n rfl dX5_told_6 ?_
  refine J_if_lt (tgt := 28) dX5_told_7 (by decide) (fun c => ?_) (fun c => ?_)
  · replace K := K.1 c
    refine J_iconst (by decide) dX5_told_28 ?_
    exact J_ireturn rfl dX5_told_29 K
  · replace K := K.2 c
    refine J_iload_n rfl dX5_told_10 ?_
    refine J_aload_n rfl dX5_told_11 ?_
    obtain ⟨a1, n1, ea1, ka1, K⟩ := K
    refine J_getRe (r := a1) fl_RX5_18 rfl kt ea1 dX5_told_12 ?_
    refine J_alen (by decide) K.1 ka1 dX5_told_15 ?_
    replace K := K.2
    refine J_icmp_ge (tgt := 28) dX5_told_16 (by decide) (fun c => ?_) (fun c => ?_)
    · replace K := K.1 c
      refine J_iconst (by decide) dX5_told_28 ?_
      exact J_ireturn rfl dX5_told_29 K
    · replace K := K.2 c
      refine J_aload_n rfl dX5_told_19 ?_
      obtain ⟨a2, n2, ea2, ka2, K⟩ := K
      refine J_getRe (r := a2) fl_RX5_18 rfl kt ea2 dX5_told_20 ?_
      refine J_iload_n rfl dX5_told_23 ?_
      refine J_iaload ka2 K.1 dX5_told_24 ?_
      replace K := K.2
      refine J_goto (tgt := 29) dX5_told_25 (by decide) ?_
      exact J_ireturn rfl dX5_told_29 K
set_option maxRecDepth 20000 in
set_option maxHeartbeats 2000000 in
theorem w_X0_lawInForce {d b : Nat} {Q : Option AV → AH → Prop} {h : AH} {o : Nat} (ho : isl o) (K : (gi h o 18 < 0 → Q (some (vR none)) h) ∧ (¬(gi h o 18 < 0) → (gi h o 16 ≤ gi h o 18 → Q (some (vR none)) h) ∧ (¬(gi h o 16 ≤ gi h o 18) → (0 ≤ gi h o 18 ∧ gi h o 18 < 6) ∧ Q (some (vR (rf h (o + 12) (gi h o 18)))) h))) : WM GX d b mX0_lawInForce [vR (some o)] h Q := by
  refine WM_introE (loc' := [some (vR (some o))]) rfl (by decide) (Nat.le_of_ble_eq_true rfl) ?_
  refine J_aload_n rfl dX0_lawInForce_0 ?_
  refine J_getI fl_RX0_70 rfl (Or.inl (gx_isl ho)) dX0_lawInForce_1 ?_
  refine J_if_lt (tgt := 30) dX0_lawInForce_4 (by decide) (fun c => ?_) (fun c => ?_)
  · replace K := K.1 c
    refine J_null dX0_lawInForce_30 ?_
    exact J_areturn ⟨_, rfl, by first | exact Or.inl ⟨_, rfl⟩ | exact Or.inr ⟨_, rfl⟩⟩ dX0_lawInForce_31 K
  · replace K := K.2 c
    refine J_aload_n rfl dX0_lawInForce_7 ?_
    refine J_getI fl_RX0_70 rfl (Or.inl (gx_isl ho)) dX0_lawInForce_8 ?_
    refine J_aload_n rfl dX0_lawInForce_11 ?_
    refine J_getI fl_RX0_61 rfl (Or.inl (gx_isl ho)) dX0_lawInForce_12 ?_
    refine J_icmp_ge (tgt := 30) dX0_lawInForce_15 (by decide) (fun c => ?_) (fun c => ?_)
    · replace K := K.1 c
      refine J_null dX0_lawInForce_30 ?_
      exact J_areturn ⟨_, rfl, by first | exact Or.inl ⟨_, rfl⟩ | exact Or.inr ⟨_, rfl⟩⟩ dX0_lawInForce_31 K
    · replace K := K.2 c
      refine J_aload_n rfl dX0_lawInForce_18 ?_
      refine J_getS (r := o + 12) fl_RX0_66 rfl (Or.inl (gx_isl ho)) (gx_r12 ho) dX0_lawInForce_19 ?_
      refine J_aload_n rfl dX0_lawInForce_22 ?_
      refine J_getI fl_RX0_70 rfl (Or.inl (gx_isl ho)) dX0_lawInForce_23 ?_
      refine J_aaload4 (Or.inl (gx_a12 ho)) K.1 dX0_lawInForce_26 ?_
      replace K := K.2
      refine J_goto (tgt := 31) dX0_lawInForce_27 (by decide) ?_
      exact J_areturn ⟨_, rfl, by first | exact Or.inl ⟨_, rfl⟩ | exact Or.inr ⟨_, rfl⟩⟩ dX0_lawInForce_31 K
set_option maxRecDepth 20000 in
set_option maxHeartbeats 2000000 in
theorem w_X1_joined {d b : Nat} {Q : Option AV → AH → Prop} {h : AH} {x1 : Int} {x2 : Int} {x3 : Int}  (K : (x1 = 37 → (x3 = 0 → Q (some (vI (-2000000000))) h) ∧ (¬(x3 = 0) → x3 ≠ 0 ∧ R64 (Int.tmod x2 x3) ∧ (Int.tmod x2 x3 < (-1000000000) → Q (some (vI (-2000000000))) h) ∧ (¬(Int.tmod x2 x3 < (-1000000000)) → (Int.tmod x2 x3 ≤ 1000000000 → Q (some (vI (zl2i (Int.tmod x2 x3)))) h) ∧ (¬(Int.tmod x2 x3 ≤ 1000000000) → Q (some (vI (-2000000000))) h)))) ∧ (¬(x1 = 37) → (x1 = 38 → Q (some (vI (-2000000000))) h) ∧ (¬(x1 = 38) → (x1 = 39 → Q (some (vI (-2000000000))) h) ∧ (¬(x1 = 39) → (x1 = 40 → Q (some (vI (-2000000000))) h) ∧ (¬(x1 = 40) → (x1 = 41 → Q (some (vI (-2000000000))) h) ∧ (¬(x1 = 41) → (x1 = 42 → R64 (x2 * x3) ∧ (x2 * x3 < (-1000000000) → Q (some (vI (-2000000000))) h) ∧ (¬(x2 * x3 < (-1000000000)) → (x2 * x3 ≤ 1000000000 → Q (some (vI (zl2i (x2 * x3)))) h) ∧ (¬(x2 * x3 ≤ 1000000000) → Q (some (vI (-2000000000))) h))) ∧ (¬(x1 = 42) → (x1 = 43 → R64 (x2 + x3) ∧ (x2 + x3 < (-1000000000) → Q (some (vI (-2000000000))) h) ∧ (¬(x2 + x3 < (-1000000000)) → (x2 + x3 ≤ 1000000000 → Q (some (vI (zl2i (x2 + x3)))) h) ∧ (¬(x2 + x3 ≤ 1000000000) → Q (some (vI (-2000000000))) h))) ∧ (¬(x1 = 43) → (x1 = 44 → Q (some (vI (-2000000000))) h) ∧ (¬(x1 = 44) → (x1 = 45 → R64 (x2 - x3) ∧ (x2 - x3 < (-1000000000) → Q (some (vI (-2000000000))) h) ∧ (¬(x2 - x3 < (-1000000000)) → (x2 - x3 ≤ 1000000000 → Q (some (vI (zl2i (x2 - x3)))) h) ∧ (¬(x2 - x3 ≤ 1000000000) → Q (some (vI (-2000000000))) h))) ∧ (¬(x1 = 45) → (x1 = 46 → Q (some (vI (-2000000000))) h) ∧ (¬(x1 = 46) → (x1 = 47 → (x3 = 0 → Q (some (vI (-2000000000))) h) ∧ (¬(x3 = 0) → x3 ≠ 0 ∧ R64 (Int.tdiv x2 x3) ∧ (Int.tdiv x2 x3 < (-1000000000) → Q (some (vI (-2000000000))) h) ∧ (¬(Int.tdiv x2 x3 < (-1000000000)) → (Int.tdiv x2 x3 ≤ 1000000000 → Q (some (vI (zl2i (Int.tdiv x2 x3)))) h) ∧ (¬(Int.tdiv x2 x3 ≤ 1000000000) → Q (some (vI (-2000000000))) h)))) ∧ (¬(x1 = 47) → (x1 = 48 → Q (some (vI (-2000000000))) h) ∧ (¬(x1 = 48) → (x1 = 49 → Q (some (vI (-2000000000))) h) ∧ (¬(x1 = 49) → (x1 = 50 → Q (some (vI (-2000000000))) h) ∧ (¬(x1 = 50) → (x1 = 51 → Q (some (vI (-2000000000))) h) ∧ (¬(x1 = 51) → (x1 = 52 → Q (some (vI (-2000000000))) h) ∧ (¬(x1 = 52) → (x1 = 53 → Q (some (vI (-2000000000))) h) ∧ (¬(x1 = 53) → (x1 = 54 → Q (some (vI (-2000000000))) h) ∧ (¬(x1 = 54) → (x1 = 55 → Q (some (vI (-2000000000))) h) ∧ (¬(x1 = 55) → (x1 = 56 → Q (some (vI (-2000000000))) h) ∧ (¬(x1 = 56) → (x1 = 57 → Q (some (vI (-2000000000))) h) ∧ (¬(x1 = 57) → (x1 = 58 → Q (some (vI (-2000000000))) h) ∧ (¬(x1 = 58) → (x1 = 59 → Q (some (vI (-2000000000))) h) ∧ (¬(x1 = 59) → (x1 = 60 → (x3 ≤ x2 → Q (some (vI (zl2i 0))) h) ∧ (¬(x3 ≤ x2) → Q (some (vI (zl2i 1))) h)) ∧ (¬(x1 = 60) → (x1 = 61 → (x2 = x3 → Q (some (vI (zl2i 1))) h) ∧ (¬(x2 = x3) → Q (some (vI (zl2i 0))) h)) ∧ (¬(x1 = 61) → (x1 = 62 → (x2 ≤ x3 → Q (some (vI (zl2i 0))) h) ∧ (¬(x2 ≤ x3) → Q (some (vI (zl2i 1))) h)) ∧ (¬(x1 = 62) → Q (some (vI (-2000000000))) h))))))))))))))))))))))))))) : WM GX d b mX1_joined [vI x1, vL x2, vL x3] h Q := by
  refine WM_introE (loc' := [some (vI x1), some (vL x2), none, some (vL x3), none, none, none]) rfl (by decide) (Nat.le_of_ble_eq_true rfl) ?_
  refine J_iload_n rfl dX1_joined_0 ?_
  by_cases c : x1 = 37
  · replace K := K.1 c
    refine J_tsIn (tgt := 164) 37 c (by decide) (by decide) rfl dX1_joined_1 (by decide) ?_
    refine J_lload_n rfl dX1_joined_164 ?_
    refine J_lconst (x := 0) (by decide) (by decide) dX1_joined_165 ?_
    refine J_lcmp dX1_joined_166 ?_
    refine J_if_ne (tgt := 176) dX1_joined_167 (by decide) (fun c => ?_) (fun c => ?_)
    · replace K := K.2 (fun z => c (zc_eq.mpr z))
      refine J_lload_n rfl dX1_joined_176 ?_
      refine J_lload_n rfl dX1_joined_177 ?_
      refine J_lrem K.1 K.2.1 dX1_joined_178 ?_
      replace K := K.2.2
      refine J_lstore (loc' := [some (vI x1), some (vL x2), none, some (vL x3), none, some (vL (Int.tmod x2 x3)), none]) (by decide) rfl dX1_joined_179 ?_
      refine J_goto (tgt := 237) dX1_joined_181 (by decide) ?_
      refine J_lload rfl dX1_joined_237 ?_
      refine J_ldc2 (n := (-1000000000)) (by decide) (by decide) kc_RX1_115 dX1_joined_239 ?_
      refine J_lcmp dX1_joined_242 ?_
      refine J_if_lt (tgt := 255) dX1_joined_243 (by decide) (fun c => ?_) (fun c => ?_)
      · replace K := K.1 (zc_lt.mp c)
        refine J_ldc (n := (-2000000000)) (by decide) (by decide) kc_RX1_102 dX1_joined_255 ?_
        refine J_goto (tgt := 263) dX1_joined_257 (by decide) ?_
        exact J_ireturn rfl dX1_joined_263 K
      · replace K := K.2 (fun z => c (zc_lt.mpr z))
        refine J_lload rfl dX1_joined_246 ?_
        refine J_ldc2 (n := 1000000000) (by decide) (by decide) kc_RX1_117 dX1_joined_248 ?_
        refine J_lcmp dX1_joined_251 ?_
        refine J_if_le (tgt := 260) dX1_joined_252 (by decide) (fun c => ?_) (fun c => ?_)
        · replace K := K.1 (zc_le.mp c)
          refine J_lload rfl dX1_joined_260 ?_
          refine J_l2i dX1_joined_262 ?_
          exact J_ireturn rfl dX1_joined_263 K
        · replace K := K.2 (fun z => c (zc_le.mpr z))
          refine J_ldc (n := (-2000000000)) (by decide) (by decide) kc_RX1_102 dX1_joined_255 ?_
          refine J_goto (tgt := 263) dX1_joined_257 (by decide) ?_
          exact J_ireturn rfl dX1_joined_263 K
    · replace K := K.1 (zc_eq.mp c)
      refine J_ldc2 (n := (-2000000000)) (by decide) (by decide) kc_RX1_113 dX1_joined_170 ?_
      refine J_goto (tgt := 179) dX1_joined_173 (by decide) ?_
      refine J_lstore (loc' := [some (vI x1), some (vL x2), none, some (vL x3), none, some (vL (-2000000000)), none]) (by decide) rfl dX1_joined_179 ?_
      refine J_goto (tgt := 237) dX1_joined_181 (by decide) ?_
      refine J_lload rfl dX1_joined_237 ?_
      refine J_ldc2 (n := (-1000000000)) (by decide) (by decide) kc_RX1_115 dX1_joined_239 ?_
      refine J_lcmp dX1_joined_242 ?_
      refine J_if_lt (tgt := 255) dX1_joined_243 (by decide) (fun _ => ?_) (fun c => absurd c (by decide))
      refine J_ldc (n := (-2000000000)) (by decide) (by decide) kc_RX1_102 dX1_joined_255 ?_
      refine J_goto (tgt := 263) dX1_joined_257 (by decide) ?_
      exact J_ireturn rfl dX1_joined_263 K
  replace K := K.2 c
  have cc1 := c
  clear c
  by_cases c : x1 = 38
  · replace K := K.1 c
    refine J_tsIn (tgt := 232) 38 c (by decide) (by decide) rfl dX1_joined_1 (by decide) ?_
    refine J_ldc2 (n := (-2000000000)) (by decide) (by decide) kc_RX1_113 dX1_joined_232 ?_
    refine J_lstore (loc' := [some (vI x1), some (vL x2), none, some (vL x3), none, some (vL (-2000000000)), none]) (by decide) rfl dX1_joined_235 ?_
    refine J_lload rfl dX1_joined_237 ?_
    refine J_ldc2 (n := (-1000000000)) (by decide) (by decide) kc_RX1_115 dX1_joined_239 ?_
    refine J_lcmp dX1_joined_242 ?_
    refine J_if_lt (tgt := 255) dX1_joined_243 (by decide) (fun _ => ?_) (fun c => absurd c (by decide))
    refine J_ldc (n := (-2000000000)) (by decide) (by decide) kc_RX1_102 dX1_joined_255 ?_
    refine J_goto (tgt := 263) dX1_joined_257 (by decide) ?_
    exact J_ireturn rfl dX1_joined_263 K
  replace K := K.2 c
  have cc2 := c
  clear c
  by_cases c : x1 = 39
  · replace K := K.1 c
    refine J_tsIn (tgt := 232) 39 c (by decide) (by decide) rfl dX1_joined_1 (by decide) ?_
    refine J_ldc2 (n := (-2000000000)) (by decide) (by decide) kc_RX1_113 dX1_joined_232 ?_
    refine J_lstore (loc' := [some (vI x1), some (vL x2), none, some (vL x3), none, some (vL (-2000000000)), none]) (by decide) rfl dX1_joined_235 ?_
    refine J_lload rfl dX1_joined_237 ?_
    refine J_ldc2 (n := (-1000000000)) (by decide) (by decide) kc_RX1_115 dX1_joined_239 ?_
    refine J_lcmp dX1_joined_242 ?_
    refine J_if_lt (tgt := 255) dX1_joined_243 (by decide) (fun _ => ?_) (fun c => absurd c (by decide))
    refine J_ldc (n := (-2000000000)) (by decide) (by decide) kc_RX1_102 dX1_joined_255 ?_
    refine J_goto (tgt := 263) dX1_joined_257 (by decide) ?_
    exact J_ireturn rfl dX1_joined_263 K
  replace K := K.2 c
  have cc3 := c
  clear c
  by_cases c : x1 = 40
  · replace K := K.1 c
    refine J_tsIn (tgt := 232) 40 c (by decide) (by decide) rfl dX1_joined_1 (by decide) ?_
    refine J_ldc2 (n := (-2000000000)) (by decide) (by decide) kc_RX1_113 dX1_joined_232 ?_
    refine J_lstore (loc' := [some (vI x1), some (vL x2), none, some (vL x3), none, some (vL (-2000000000)), none]) (by decide) rfl dX1_joined_235 ?_
    refine J_lload rfl dX1_joined_237 ?_
    refine J_ldc2 (n := (-1000000000)) (by decide) (by decide) kc_RX1_115 dX1_joined_239 ?_
    refine J_lcmp dX1_joined_242 ?_
    refine J_if_lt (tgt := 255) dX1_joined_243 (by decide) (fun _ => ?_) (fun c => absurd c (by decide))
    refine J_ldc (n := (-2000000000)) (by decide) (by decide) kc_RX1_102 dX1_joined_255 ?_
    refine J_goto (tgt := 263) dX1_joined_257 (by decide) ?_
    exact J_ireturn rfl dX1_joined_263 K
  replace K := K.2 c
  have cc4 := c
  clear c
  by_cases c : x1 = 41
  · replace K := K.1 c
    refine J_tsIn (tgt := 232) 41 c (by decide) (by decide) rfl dX1_joined_1 (by decide) ?_
    refine J_ldc2 (n := (-2000000000)) (by decide) (by decide) kc_RX1_113 dX1_joined_232 ?_
    refine J_lstore (loc' := [some (vI x1), some (vL x2), none, some (vL x3), none, some (vL (-2000000000)), none]) (by decide) rfl dX1_joined_235 ?_
    refine J_lload rfl dX1_joined_237 ?_
    refine J_ldc2 (n := (-1000000000)) (by decide) (by decide) kc_RX1_115 dX1_joined_239 ?_
    refine J_lcmp dX1_joined_242 ?_
    refine J_if_lt (tgt := 255) dX1_joined_243 (by decide) (fun _ => ?_) (fun c => absurd c (by decide))
    refine J_ldc (n := (-2000000000)) (by decide) (by decide) kc_RX1_102 dX1_joined_255 ?_
    refine J_goto (tgt := 263) dX1_joined_257 (by decide) ?_
    exact J_ireturn rfl dX1_joined_263 K
  replace K := K.2 c
  have cc5 := c
  clear c
  by_cases c : x1 = 42
  · replace K := K.1 c
    refine J_tsIn (tgt := 136) 42 c (by decide) (by decide) rfl dX1_joined_1 (by decide) ?_
    refine J_lload_n rfl dX1_joined_136 ?_
    refine J_lload_n rfl dX1_joined_137 ?_
    refine J_lmul K.1 dX1_joined_138 ?_
    replace K := K.2
    refine J_lstore (loc' := [some (vI x1), some (vL x2), none, some (vL x3), none, some (vL (x2 * x3)), none]) (by decide) rfl dX1_joined_139 ?_
    refine J_goto (tgt := 237) dX1_joined_141 (by decide) ?_
    refine J_lload rfl dX1_joined_237 ?_
    refine J_ldc2 (n := (-1000000000)) (by decide) (by decide) kc_RX1_115 dX1_joined_239 ?_
    refine J_lcmp dX1_joined_242 ?_
    refine J_if_lt (tgt := 255) dX1_joined_243 (by decide) (fun c => ?_) (fun c => ?_)
    · replace K := K.1 (zc_lt.mp c)
      refine J_ldc (n := (-2000000000)) (by decide) (by decide) kc_RX1_102 dX1_joined_255 ?_
      refine J_goto (tgt := 263) dX1_joined_257 (by decide) ?_
      exact J_ireturn rfl dX1_joined_263 K
    · replace K := K.2 (fun z => c (zc_lt.mpr z))
      refine J_lload rfl dX1_joined_246 ?_
      refine J_ldc2 (n := 1000000000) (by decide) (by decide) kc_RX1_117 dX1_joined_248 ?_
      refine J_lcmp dX1_joined_251 ?_
      refine J_if_le (tgt := 260) dX1_joined_252 (by decide) (fun c => ?_) (fun c => ?_)
      · replace K := K.1 (zc_le.mp c)
        refine J_lload rfl dX1_joined_260 ?_
        refine J_l2i dX1_joined_262 ?_
        exact J_ireturn rfl dX1_joined_263 K
      · replace K := K.2 (fun z => c (zc_le.mpr z))
        refine J_ldc (n := (-2000000000)) (by decide) (by decide) kc_RX1_102 dX1_joined_255 ?_
        refine J_goto (tgt := 263) dX1_joined_257 (by decide) ?_
        exact J_ireturn rfl dX1_joined_263 K
  replace K := K.2 c
  have cc6 := c
  clear c
  by_cases c : x1 = 43
  · replace K := K.1 c
    refine J_tsIn (tgt := 120) 43 c (by decide) (by decide) rfl dX1_joined_1 (by decide) ?_
    refine J_lload_n rfl dX1_joined_120 ?_
    refine J_lload_n rfl dX1_joined_121 ?_
    refine J_ladd K.1 dX1_joined_122 ?_
    replace K := K.2
    refine J_lstore (loc' := [some (vI x1), some (vL x2), none, some (vL x3), none, some (vL (x2 + x3)), none]) (by decide) rfl dX1_joined_123 ?_
    refine J_goto (tgt := 237) dX1_joined_125 (by decide) ?_
    refine J_lload rfl dX1_joined_237 ?_
    refine J_ldc2 (n := (-1000000000)) (by decide) (by decide) kc_RX1_115 dX1_joined_239 ?_
    refine J_lcmp dX1_joined_242 ?_
    refine J_if_lt (tgt := 255) dX1_joined_243 (by decide) (fun c => ?_) (fun c => ?_)
    · replace K := K.1 (zc_lt.mp c)
      refine J_ldc (n := (-2000000000)) (by decide) (by decide) kc_RX1_102 dX1_joined_255 ?_
      refine J_goto (tgt := 263) dX1_joined_257 (by decide) ?_
      exact J_ireturn rfl dX1_joined_263 K
    · replace K := K.2 (fun z => c (zc_lt.mpr z))
      refine J_lload rfl dX1_joined_246 ?_
      refine J_ldc2 (n := 1000000000) (by decide) (by decide) kc_RX1_117 dX1_joined_248 ?_
      refine J_lcmp dX1_joined_251 ?_
      refine J_if_le (tgt := 260) dX1_joined_252 (by decide) (fun c => ?_) (fun c => ?_)
      · replace K := K.1 (zc_le.mp c)
        refine J_lload rfl dX1_joined_260 ?_
        refine J_l2i dX1_joined_262 ?_
        exact J_ireturn rfl dX1_joined_263 K
      · replace K := K.2 (fun z => c (zc_le.mpr z))
        refine J_ldc (n := (-2000000000)) (by decide) (by decide) kc_RX1_102 dX1_joined_255 ?_
        refine J_goto (tgt := 263) dX1_joined_257 (by decide) ?_
        exact J_ireturn rfl dX1_joined_263 K
  replace K := K.2 c
  have cc7 := c
  clear c
  by_cases c : x1 = 44
  · replace K := K.1 c
    refine J_tsIn (tgt := 232) 44 c (by decide) (by decide) rfl dX1_joined_1 (by decide) ?_
    refine J_ldc2 (n := (-2000000000)) (by decide) (by decide) kc_RX1_113 dX1_joined_232 ?_
    refine J_lstore (loc' := [some (vI x1), some (vL x2), none, some (vL x3), none, some (vL (-2000000000)), none]) (by decide) rfl dX1_joined_235 ?_
    refine J_lload rfl dX1_joined_237 ?_
    refine J_ldc2 (n := (-1000000000)) (by decide) (by decide) kc_RX1_115 dX1_joined_239 ?_
    refine J_lcmp dX1_joined_242 ?_
    refine J_if_lt (tgt := 255) dX1_joined_243 (by decide) (fun _ => ?_) (fun c => absurd c (by decide))
    refine J_ldc (n := (-2000000000)) (by decide) (by decide) kc_RX1_102 dX1_joined_255 ?_
    refine J_goto (tgt := 263) dX1_joined_257 (by decide) ?_
    exact J_ireturn rfl dX1_joined_263 K
  replace K := K.2 c
  have cc8 := c
  clear c
  by_cases c : x1 = 45
  · replace K := K.1 c
    refine J_tsIn (tgt := 128) 45 c (by decide) (by decide) rfl dX1_joined_1 (by decide) ?_
    refine J_lload_n rfl dX1_joined_128 ?_
    refine J_lload_n rfl dX1_joined_129 ?_
    refine J_lsub K.1 dX1_joined_130 ?_
    replace K := K.2
    refine J_lstore (loc' := [some (vI x1), some (vL x2), none, some (vL x3), none, some (vL (x2 - x3)), none]) (by decide) rfl dX1_joined_131 ?_
    refine J_goto (tgt := 237) dX1_joined_133 (by decide) ?_
    refine J_lload rfl dX1_joined_237 ?_
    refine J_ldc2 (n := (-1000000000)) (by decide) (by decide) kc_RX1_115 dX1_joined_239 ?_
    refine J_lcmp dX1_joined_242 ?_
    refine J_if_lt (tgt := 255) dX1_joined_243 (by decide) (fun c => ?_) (fun c => ?_)
    · replace K := K.1 (zc_lt.mp c)
      refine J_ldc (n := (-2000000000)) (by decide) (by decide) kc_RX1_102 dX1_joined_255 ?_
      refine J_goto (tgt := 263) dX1_joined_257 (by decide) ?_
      exact J_ireturn rfl dX1_joined_263 K
    · replace K := K.2 (fun z => c (zc_lt.mpr z))
      refine J_lload rfl dX1_joined_246 ?_
      refine J_ldc2 (n := 1000000000) (by decide) (by decide) kc_RX1_117 dX1_joined_248 ?_
      refine J_lcmp dX1_joined_251 ?_
      refine J_if_le (tgt := 260) dX1_joined_252 (by decide) (fun c => ?_) (fun c => ?_)
      · replace K := K.1 (zc_le.mp c)
        refine J_lload rfl dX1_joined_260 ?_
        refine J_l2i dX1_joined_262 ?_
        exact J_ireturn rfl dX1_joined_263 K
      · replace K := K.2 (fun z => c (zc_le.mpr z))
        refine J_ldc (n := (-2000000000)) (by decide) (by decide) kc_RX1_102 dX1_joined_255 ?_
        refine J_goto (tgt := 263) dX1_joined_257 (by decide) ?_
        exact J_ireturn rfl dX1_joined_263 K
  replace K := K.2 c
  have cc9 := c
  clear c
  by_cases c : x1 = 46
  · replace K := K.1 c
    refine J_tsIn (tgt := 232) 46 c (by decide) (by decide) rfl dX1_joined_1 (by decide) ?_
    refine J_ldc2 (n := (-2000000000)) (by decide) (by decide) kc_RX1_113 dX1_joined_232 ?_
    refine J_lstore (loc' := [some (vI x1), some (vL x2), none, some (vL x3), none, some (vL (-2000000000)), none]) (by decide) rfl dX1_joined_235 ?_
    refine J_lload rfl dX1_joined_237 ?_
    refine J_ldc2 (n := (-1000000000)) (by decide) (by decide) kc_RX1_115 dX1_joined_239 ?_
    refine J_lcmp dX1_joined_242 ?_
    refine J_if_lt (tgt := 255) dX1_joined_243 (by decide) (fun _ => ?_) (fun c => absurd c (by decide))
    refine J_ldc (n := (-2000000000)) (by decide) (by decide) kc_RX1_102 dX1_joined_255 ?_
    refine J_goto (tgt := 263) dX1_joined_257 (by decide) ?_
    exact J_ireturn rfl dX1_joined_263 K
  replace K := K.2 c
  have cc10 := c
  clear c
  by_cases c : x1 = 47
  · replace K := K.1 c
    refine J_tsIn (tgt := 144) 47 c (by decide) (by decide) rfl dX1_joined_1 (by decide) ?_
    refine J_lload_n rfl dX1_joined_144 ?_
    refine J_lconst (x := 0) (by decide) (by decide) dX1_joined_145 ?_
    refine J_lcmp dX1_joined_146 ?_
    refine J_if_ne (tgt := 156) dX1_joined_147 (by decide) (fun c => ?_) (fun c => ?_)
    · replace K := K.2 (fun z => c (zc_eq.mpr z))
      refine J_lload_n rfl dX1_joined_156 ?_
      refine J_lload_n rfl dX1_joined_157 ?_
      refine J_ldiv K.1 K.2.1 dX1_joined_158 ?_
      replace K := K.2.2
      refine J_lstore (loc' := [some (vI x1), some (vL x2), none, some (vL x3), none, some (vL (Int.tdiv x2 x3)), none]) (by decide) rfl dX1_joined_159 ?_
      refine J_goto (tgt := 237) dX1_joined_161 (by decide) ?_
      refine J_lload rfl dX1_joined_237 ?_
      refine J_ldc2 (n := (-1000000000)) (by decide) (by decide) kc_RX1_115 dX1_joined_239 ?_
      refine J_lcmp dX1_joined_242 ?_
      refine J_if_lt (tgt := 255) dX1_joined_243 (by decide) (fun c => ?_) (fun c => ?_)
      · replace K := K.1 (zc_lt.mp c)
        refine J_ldc (n := (-2000000000)) (by decide) (by decide) kc_RX1_102 dX1_joined_255 ?_
        refine J_goto (tgt := 263) dX1_joined_257 (by decide) ?_
        exact J_ireturn rfl dX1_joined_263 K
      · replace K := K.2 (fun z => c (zc_lt.mpr z))
        refine J_lload rfl dX1_joined_246 ?_
        refine J_ldc2 (n := 1000000000) (by decide) (by decide) kc_RX1_117 dX1_joined_248 ?_
        refine J_lcmp dX1_joined_251 ?_
        refine J_if_le (tgt := 260) dX1_joined_252 (by decide) (fun c => ?_) (fun c => ?_)
        · replace K := K.1 (zc_le.mp c)
          refine J_lload rfl dX1_joined_260 ?_
          refine J_l2i dX1_joined_262 ?_
          exact J_ireturn rfl dX1_joined_263 K
        · replace K := K.2 (fun z => c (zc_le.mpr z))
          refine J_ldc (n := (-2000000000)) (by decide) (by decide) kc_RX1_102 dX1_joined_255 ?_
          refine J_goto (tgt := 263) dX1_joined_257 (by decide) ?_
          exact J_ireturn rfl dX1_joined_263 K
    · replace K := K.1 (zc_eq.mp c)
      refine J_ldc2 (n := (-2000000000)) (by decide) (by decide) kc_RX1_113 dX1_joined_150 ?_
      refine J_goto (tgt := 159) dX1_joined_153 (by decide) ?_
      refine J_lstore (loc' := [some (vI x1), some (vL x2), none, some (vL x3), none, some (vL (-2000000000)), none]) (by decide) rfl dX1_joined_159 ?_
      refine J_goto (tgt := 237) dX1_joined_161 (by decide) ?_
      refine J_lload rfl dX1_joined_237 ?_
      refine J_ldc2 (n := (-1000000000)) (by decide) (by decide) kc_RX1_115 dX1_joined_239 ?_
      refine J_lcmp dX1_joined_242 ?_
      refine J_if_lt (tgt := 255) dX1_joined_243 (by decide) (fun _ => ?_) (fun c => absurd c (by decide))
      refine J_ldc (n := (-2000000000)) (by decide) (by decide) kc_RX1_102 dX1_joined_255 ?_
      refine J_goto (tgt := 263) dX1_joined_257 (by decide) ?_
      exact J_ireturn rfl dX1_joined_263 K
  replace K := K.2 c
  have cc11 := c
  clear c
  by_cases c : x1 = 48
  · replace K := K.1 c
    refine J_tsIn (tgt := 232) 48 c (by decide) (by decide) rfl dX1_joined_1 (by decide) ?_
    refine J_ldc2 (n := (-2000000000)) (by decide) (by decide) kc_RX1_113 dX1_joined_232 ?_
    refine J_lstore (loc' := [some (vI x1), some (vL x2), none, some (vL x3), none, some (vL (-2000000000)), none]) (by decide) rfl dX1_joined_235 ?_
    refine J_lload rfl dX1_joined_237 ?_
    refine J_ldc2 (n := (-1000000000)) (by decide) (by decide) kc_RX1_115 dX1_joined_239 ?_
    refine J_lcmp dX1_joined_242 ?_
    refine J_if_lt (tgt := 255) dX1_joined_243 (by decide) (fun _ => ?_) (fun c => absurd c (by decide))
    refine J_ldc (n := (-2000000000)) (by decide) (by decide) kc_RX1_102 dX1_joined_255 ?_
    refine J_goto (tgt := 263) dX1_joined_257 (by decide) ?_
    exact J_ireturn rfl dX1_joined_263 K
  replace K := K.2 c
  have cc12 := c
  clear c
  by_cases c : x1 = 49
  · replace K := K.1 c
    refine J_tsIn (tgt := 232) 49 c (by decide) (by decide) rfl dX1_joined_1 (by decide) ?_
    refine J_ldc2 (n := (-2000000000)) (by decide) (by decide) kc_RX1_113 dX1_joined_232 ?_
    refine J_lstore (loc' := [some (vI x1), some (vL x2), none, some (vL x3), none, some (vL (-2000000000)), none]) (by decide) rfl dX1_joined_235 ?_
    refine J_lload rfl dX1_joined_237 ?_
    refine J_ldc2 (n := (-1000000000)) (by decide) (by decide) kc_RX1_115 dX1_joined_239 ?_
    refine J_lcmp dX1_joined_242 ?_
    refine J_if_lt (tgt := 255) dX1_joined_243 (by decide) (fun _ => ?_) (fun c => absurd c (by decide))
    refine J_ldc (n := (-2000000000)) (by decide) (by decide) kc_RX1_102 dX1_joined_255 ?_
    refine J_goto (tgt := 263) dX1_joined_257 (by decide) ?_
    exact J_ireturn rfl dX1_joined_263 K
  replace K := K.2 c
  have cc13 := c
  clear c
  by_cases c : x1 = 50
  · replace K := K.1 c
    refine J_tsIn (tgt := 232) 50 c (by decide) (by decide) rfl dX1_joined_1 (by decide) ?_
    refine J_ldc2 (n := (-2000000000)) (by decide) (by decide) kc_RX1_113 dX1_joined_232 ?_
    refine J_lstore (loc' := [some (vI x1), some (vL x2), none, some (vL x3), none, some (vL (-2000000000)), none]) (by decide) rfl dX1_joined_235 ?_
    refine J_lload rfl dX1_joined_237 ?_
    refine J_ldc2 (n := (-1000000000)) (by decide) (by decide) kc_RX1_115 dX1_joined_239 ?_
    refine J_lcmp dX1_joined_242 ?_
    refine J_if_lt (tgt := 255) dX1_joined_243 (by decide) (fun _ => ?_) (fun c => absurd c (by decide))
    refine J_ldc (n := (-2000000000)) (by decide) (by decide) kc_RX1_102 dX1_joined_255 ?_
    refine J_goto (tgt := 263) dX1_joined_257 (by decide) ?_
    exact J_ireturn rfl dX1_joined_263 K
  replace K := K.2 c
  have cc14 := c
  clear c
  by_cases c : x1 = 51
  · replace K := K.1 c
    refine J_tsIn (tgt := 232) 51 c (by decide) (by decide) rfl dX1_joined_1 (by decide) ?_
    refine J_ldc2 (n := (-2000000000)) (by decide) (by decide) kc_RX1_113 dX1_joined_232 ?_
    refine J_lstore (loc' := [some (vI x1), some (vL x2), none, some (vL x3), none, some (vL (-2000000000)), none]) (by decide) rfl dX1_joined_235 ?_
    refine J_lload rfl dX1_joined_237 ?_
    refine J_ldc2 (n := (-1000000000)) (by decide) (by decide) kc_RX1_115 dX1_joined_239 ?_
    refine J_lcmp dX1_joined_242 ?_
    refine J_if_lt (tgt := 255) dX1_joined_243 (by decide) (fun _ => ?_) (fun c => absurd c (by decide))
    refine J_ldc (n := (-2000000000)) (by decide) (by decide) kc_RX1_102 dX1_joined_255 ?_
    refine J_goto (tgt := 263) dX1_joined_257 (by decide) ?_
    exact J_ireturn rfl dX1_joined_263 K
  replace K := K.2 c
  have cc15 := c
  clear c
  by_cases c : x1 = 52
  · replace K := K.1 c
    refine J_tsIn (tgt := 232) 52 c (by decide) (by decide) rfl dX1_joined_1 (by decide) ?_
    refine J_ldc2 (n := (-2000000000)) (by decide) (by decide) kc_RX1_113 dX1_joined_232 ?_
    refine J_lstore (loc' := [some (vI x1), some (vL x2), none, some (vL x3), none, some (vL (-2000000000)), none]) (by decide) rfl dX1_joined_235 ?_
    refine J_lload rfl dX1_joined_237 ?_
    refine J_ldc2 (n := (-1000000000)) (by decide) (by decide) kc_RX1_115 dX1_joined_239 ?_
    refine J_lcmp dX1_joined_242 ?_
    refine J_if_lt (tgt := 255) dX1_joined_243 (by decide) (fun _ => ?_) (fun c => absurd c (by decide))
    refine J_ldc (n := (-2000000000)) (by decide) (by decide) kc_RX1_102 dX1_joined_255 ?_
    refine J_goto (tgt := 263) dX1_joined_257 (by decide) ?_
    exact J_ireturn rfl dX1_joined_263 K
  replace K := K.2 c
  have cc16 := c
  clear c
  by_cases c : x1 = 53
  · replace K := K.1 c
    refine J_tsIn (tgt := 232) 53 c (by decide) (by decide) rfl dX1_joined_1 (by decide) ?_
    refine J_ldc2 (n := (-2000000000)) (by decide) (by decide) kc_RX1_113 dX1_joined_232 ?_
    refine J_lstore (loc' := [some (vI x1), some (vL x2), none, some (vL x3), none, some (vL (-2000000000)), none]) (by decide) rfl dX1_joined_235 ?_
    refine J_lload rfl dX1_joined_237 ?_
    refine J_ldc2 (n := (-1000000000)) (by decide) (by decide) kc_RX1_115 dX1_joined_239 ?_
    refine J_lcmp dX1_joined_242 ?_
    refine J_if_lt (tgt := 255) dX1_joined_243 (by decide) (fun _ => ?_) (fun c => absurd c (by decide))
    refine J_ldc (n := (-2000000000)) (by decide) (by decide) kc_RX1_102 dX1_joined_255 ?_
    refine J_goto (tgt := 263) dX1_joined_257 (by decide) ?_
    exact J_ireturn rfl dX1_joined_263 K
  replace K := K.2 c
  have cc17 := c
  clear c
  by_cases c : x1 = 54
  · replace K := K.1 c
    refine J_tsIn (tgt := 232) 54 c (by decide) (by decide) rfl dX1_joined_1 (by decide) ?_
    refine J_ldc2 (n := (-2000000000)) (by decide) (by decide) kc_RX1_113 dX1_joined_232 ?_
    refine J_lstore (loc' := [some (vI x1), some (vL x2), none, some (vL x3), none, some (vL (-2000000000)), none]) (by decide) rfl dX1_joined_235 ?_
    refine J_lload rfl dX1_joined_237 ?_
    refine J_ldc2 (n := (-1000000000)) (by decide) (by decide) kc_RX1_115 dX1_joined_239 ?_
    refine J_lcmp dX1_joined_242 ?_
    refine J_if_lt (tgt := 255) dX1_joined_243 (by decide) (fun _ => ?_) (fun c => absurd c (by decide))
    refine J_ldc (n := (-2000000000)) (by decide) (by decide) kc_RX1_102 dX1_joined_255 ?_
    refine J_goto (tgt := 263) dX1_joined_257 (by decide) ?_
    exact J_ireturn rfl dX1_joined_263 K
  replace K := K.2 c
  have cc18 := c
  clear c
  by_cases c : x1 = 55
  · replace K := K.1 c
    refine J_tsIn (tgt := 232) 55 c (by decide) (by decide) rfl dX1_joined_1 (by decide) ?_
    refine J_ldc2 (n := (-2000000000)) (by decide) (by decide) kc_RX1_113 dX1_joined_232 ?_
    refine J_lstore (loc' := [some (vI x1), some (vL x2), none, some (vL x3), none, some (vL (-2000000000)), none]) (by decide) rfl dX1_joined_235 ?_
    refine J_lload rfl dX1_joined_237 ?_
    refine J_ldc2 (n := (-1000000000)) (by decide) (by decide) kc_RX1_115 dX1_joined_239 ?_
    refine J_lcmp dX1_joined_242 ?_
    refine J_if_lt (tgt := 255) dX1_joined_243 (by decide) (fun _ => ?_) (fun c => absurd c (by decide))
    refine J_ldc (n := (-2000000000)) (by decide) (by decide) kc_RX1_102 dX1_joined_255 ?_
    refine J_goto (tgt := 263) dX1_joined_257 (by decide) ?_
    exact J_ireturn rfl dX1_joined_263 K
  replace K := K.2 c
  have cc19 := c
  clear c
  by_cases c : x1 = 56
  · replace K := K.1 c
    refine J_tsIn (tgt := 232) 56 c (by decide) (by decide) rfl dX1_joined_1 (by decide) ?_
    refine J_ldc2 (n := (-2000000000)) (by decide) (by decide) kc_RX1_113 dX1_joined_232 ?_
    refine J_lstore (loc' := [some (vI x1), some (vL x2), none, some (vL x3), none, some (vL (-2000000000)), none]) (by decide) rfl dX1_joined_235 ?_
    refine J_lload rfl dX1_joined_237 ?_
    refine J_ldc2 (n := (-1000000000)) (by decide) (by decide) kc_RX1_115 dX1_joined_239 ?_
    refine J_lcmp dX1_joined_242 ?_
    refine J_if_lt (tgt := 255) dX1_joined_243 (by decide) (fun _ => ?_) (fun c => absurd c (by decide))
    refine J_ldc (n := (-2000000000)) (by decide) (by decide) kc_RX1_102 dX1_joined_255 ?_
    refine J_goto (tgt := 263) dX1_joined_257 (by decide) ?_
    exact J_ireturn rfl dX1_joined_263 K
  replace K := K.2 c
  have cc20 := c
  clear c
  by_cases c : x1 = 57
  · replace K := K.1 c
    refine J_tsIn (tgt := 232) 57 c (by decide) (by decide) rfl dX1_joined_1 (by decide) ?_
    refine J_ldc2 (n := (-2000000000)) (by decide) (by decide) kc_RX1_113 dX1_joined_232 ?_
    refine J_lstore (loc' := [some (vI x1), some (vL x2), none, some (vL x3), none, some (vL (-2000000000)), none]) (by decide) rfl dX1_joined_235 ?_
    refine J_lload rfl dX1_joined_237 ?_
    refine J_ldc2 (n := (-1000000000)) (by decide) (by decide) kc_RX1_115 dX1_joined_239 ?_
    refine J_lcmp dX1_joined_242 ?_
    refine J_if_lt (tgt := 255) dX1_joined_243 (by decide) (fun _ => ?_) (fun c => absurd c (by decide))
    refine J_ldc (n := (-2000000000)) (by decide) (by decide) kc_RX1_102 dX1_joined_255 ?_
    refine J_goto (tgt := 263) dX1_joined_257 (by decide) ?_
    exact J_ireturn rfl dX1_joined_263 K
  replace K := K.2 c
  have cc21 := c
  clear c
  by_cases c : x1 = 58
  · replace K := K.1 c
    refine J_tsIn (tgt := 232) 58 c (by decide) (by decide) rfl dX1_joined_1 (by decide) ?_
    refine J_ldc2 (n := (-2000000000)) (by decide) (by decide) kc_RX1_113 dX1_joined_232 ?_
    refine J_lstore (loc' := [some (vI x1), some (vL x2), none, some (vL x3), none, some (vL (-2000000000)), none]) (by decide) rfl dX1_joined_235 ?_
    refine J_lload rfl dX1_joined_237 ?_
    refine J_ldc2 (n := (-1000000000)) (by decide) (by decide) kc_RX1_115 dX1_joined_239 ?_
    refine J_lcmp dX1_joined_242 ?_
    refine J_if_lt (tgt := 255) dX1_joined_243 (by decide) (fun _ => ?_) (fun c => absurd c (by decide))
    refine J_ldc (n := (-2000000000)) (by decide) (by decide) kc_RX1_102 dX1_joined_255 ?_
    refine J_goto (tgt := 263) dX1_joined_257 (by decide) ?_
    exact J_ireturn rfl dX1_joined_263 K
  replace K := K.2 c
  have cc22 := c
  clear c
  by_cases c : x1 = 59
  · replace K := K.1 c
    refine J_tsIn (tgt := 232) 59 c (by decide) (by decide) rfl dX1_joined_1 (by decide) ?_
    refine J_ldc2 (n := (-2000000000)) (by decide) (by decide) kc_RX1_113 dX1_joined_232 ?_
    refine J_lstore (loc' := [some (vI x1), some (vL x2), none, some (vL x3), none, some (vL (-2000000000)), none]) (by decide) rfl dX1_joined_235 ?_
    refine J_lload rfl dX1_joined_237 ?_
    refine J_ldc2 (n := (-1000000000)) (by decide) (by decide) kc_RX1_115 dX1_joined_239 ?_
    refine J_lcmp dX1_joined_242 ?_
    refine J_if_lt (tgt := 255) dX1_joined_243 (by decide) (fun _ => ?_) (fun c => absurd c (by decide))
    refine J_ldc (n := (-2000000000)) (by decide) (by decide) kc_RX1_102 dX1_joined_255 ?_
    refine J_goto (tgt := 263) dX1_joined_257 (by decide) ?_
    exact J_ireturn rfl dX1_joined_263 K
  replace K := K.2 c
  have cc23 := c
  clear c
  by_cases c : x1 = 60
  · replace K := K.1 c
    refine J_tsIn (tgt := 184) 60 c (by decide) (by decide) rfl dX1_joined_1 (by decide) ?_
    refine J_lload_n rfl dX1_joined_184 ?_
    refine J_lload_n rfl dX1_joined_185 ?_
    refine J_lcmp dX1_joined_186 ?_
    refine J_if_ge (tgt := 194) dX1_joined_187 (by decide) (fun c => ?_) (fun c => ?_)
    · replace K := K.1 (zc_ge.mp c)
      refine J_lconst (x := 0) (by decide) (by decide) dX1_joined_194 ?_
      refine J_lstore (loc' := [some (vI x1), some (vL x2), none, some (vL x3), none, some (vL 0), none]) (by decide) rfl dX1_joined_195 ?_
      refine J_goto (tgt := 237) dX1_joined_197 (by decide) ?_
      refine J_lload rfl dX1_joined_237 ?_
      refine J_ldc2 (n := (-1000000000)) (by decide) (by decide) kc_RX1_115 dX1_joined_239 ?_
      refine J_lcmp dX1_joined_242 ?_
      refine J_if_lt (tgt := 255) dX1_joined_243 (by decide) (fun c => absurd c (by decide)) (fun _ => ?_)
      refine J_lload rfl dX1_joined_246 ?_
      refine J_ldc2 (n := 1000000000) (by decide) (by decide) kc_RX1_117 dX1_joined_248 ?_
      refine J_lcmp dX1_joined_251 ?_
      refine J_if_le (tgt := 260) dX1_joined_252 (by decide) (fun _ => ?_) (fun c => absurd c (by decide))
      refine J_lload rfl dX1_joined_260 ?_
      refine J_l2i dX1_joined_262 ?_
      exact J_ireturn rfl dX1_joined_263 K
    · replace K := K.2 (fun z => c (zc_ge.mpr z))
      refine J_lconst (x := 1) (by decide) (by decide) dX1_joined_190 ?_
      refine J_goto (tgt := 195) dX1_joined_191 (by decide) ?_
      refine J_lstore (loc' := [some (vI x1), some (vL x2), none, some (vL x3), none, some (vL 1), none]) (by decide) rfl dX1_joined_195 ?_
      refine J_goto (tgt := 237) dX1_joined_197 (by decide) ?_
      refine J_lload rfl dX1_joined_237 ?_
      refine J_ldc2 (n := (-1000000000)) (by decide) (by decide) kc_RX1_115 dX1_joined_239 ?_
      refine J_lcmp dX1_joined_242 ?_
      refine J_if_lt (tgt := 255) dX1_joined_243 (by decide) (fun c => absurd c (by decide)) (fun _ => ?_)
      refine J_lload rfl dX1_joined_246 ?_
      refine J_ldc2 (n := 1000000000) (by decide) (by decide) kc_RX1_117 dX1_joined_248 ?_
      refine J_lcmp dX1_joined_251 ?_
      refine J_if_le (tgt := 260) dX1_joined_252 (by decide) (fun _ => ?_) (fun c => absurd c (by decide))
      refine J_lload rfl dX1_joined_260 ?_
      refine J_l2i dX1_joined_262 ?_
      exact J_ireturn rfl dX1_joined_263 K
  replace K := K.2 c
  have cc24 := c
  clear c
  by_cases c : x1 = 61
  · replace K := K.1 c
    refine J_tsIn (tgt := 216) 61 c (by decide) (by decide) rfl dX1_joined_1 (by decide) ?_
    refine J_lload_n rfl dX1_joined_216 ?_
    refine J_lload_n rfl dX1_joined_217 ?_
    refine J_lcmp dX1_joined_218 ?_
    refine J_if_ne (tgt := 226) dX1_joined_219 (by decide) (fun c => ?_) (fun c => ?_)
    · replace K := K.2 (fun z => c (zc_eq.mpr z))
      refine J_lconst (x := 0) (by decide) (by decide) dX1_joined_226 ?_
      refine J_lstore (loc' := [some (vI x1), some (vL x2), none, some (vL x3), none, some (vL 0), none]) (by decide) rfl dX1_joined_227 ?_
      refine J_goto (tgt := 237) dX1_joined_229 (by decide) ?_
      refine J_lload rfl dX1_joined_237 ?_
      refine J_ldc2 (n := (-1000000000)) (by decide) (by decide) kc_RX1_115 dX1_joined_239 ?_
      refine J_lcmp dX1_joined_242 ?_
      refine J_if_lt (tgt := 255) dX1_joined_243 (by decide) (fun c => absurd c (by decide)) (fun _ => ?_)
      refine J_lload rfl dX1_joined_246 ?_
      refine J_ldc2 (n := 1000000000) (by decide) (by decide) kc_RX1_117 dX1_joined_248 ?_
      refine J_lcmp dX1_joined_251 ?_
      refine J_if_le (tgt := 260) dX1_joined_252 (by decide) (fun _ => ?_) (fun c => absurd c (by decide))
      refine J_lload rfl dX1_joined_260 ?_
      refine J_l2i dX1_joined_262 ?_
      exact J_ireturn rfl dX1_joined_263 K
    · replace K := K.1 (zc_eq.mp c)
      refine J_lconst (x := 1) (by decide) (by decide) dX1_joined_222 ?_
      refine J_goto (tgt := 227) dX1_joined_223 (by decide) ?_
      refine J_lstore (loc' := [some (vI x1), some (vL x2), none, some (vL x3), none, some (vL 1), none]) (by decide) rfl dX1_joined_227 ?_
      refine J_goto (tgt := 237) dX1_joined_229 (by decide) ?_
      refine J_lload rfl dX1_joined_237 ?_
      refine J_ldc2 (n := (-1000000000)) (by decide) (by decide) kc_RX1_115 dX1_joined_239 ?_
      refine J_lcmp dX1_joined_242 ?_
      refine J_if_lt (tgt := 255) dX1_joined_243 (by decide) (fun c => absurd c (by decide)) (fun _ => ?_)
      refine J_lload rfl dX1_joined_246 ?_
      refine J_ldc2 (n := 1000000000) (by decide) (by decide) kc_RX1_117 dX1_joined_248 ?_
      refine J_lcmp dX1_joined_251 ?_
      refine J_if_le (tgt := 260) dX1_joined_252 (by decide) (fun _ => ?_) (fun c => absurd c (by decide))
      refine J_lload rfl dX1_joined_260 ?_
      refine J_l2i dX1_joined_262 ?_
      exact J_ireturn rfl dX1_joined_263 K
  replace K := K.2 c
  have cc25 := c
  clear c
  by_cases c : x1 = 62
  · replace K := K.1 c
    refine J_tsIn (tgt := 200) 62 c (by decide) (by decide) rfl dX1_joined_1 (by decide) ?_
    refine J_lload_n rfl dX1_joined_200 ?_
    refine J_lload_n rfl dX1_joined_201 ?_
    refine J_lcmp dX1_joined_202 ?_
    refine J_if_le (tgt := 210) dX1_joined_203 (by decide) (fun c => ?_) (fun c => ?_)
    · replace K := K.1 (zc_le.mp c)
      refine J_lconst (x := 0) (by decide) (by decide) dX1_joined_210 ?_
      refine J_lstore (loc' := [some (vI x1), some (vL x2), none, some (vL x3), none, some (vL 0), none]) (by decide) rfl dX1_joined_211 ?_
      refine J_goto (tgt := 237) dX1_joined_213 (by decide) ?_
      refine J_lload rfl dX1_joined_237 ?_
      refine J_ldc2 (n := (-1000000000)) (by decide) (by decide) kc_RX1_115 dX1_joined_239 ?_
      refine J_lcmp dX1_joined_242 ?_
      refine J_if_lt (tgt := 255) dX1_joined_243 (by decide) (fun c => absurd c (by decide)) (fun _ => ?_)
      refine J_lload rfl dX1_joined_246 ?_
      refine J_ldc2 (n := 1000000000) (by decide) (by decide) kc_RX1_117 dX1_joined_248 ?_
      refine J_lcmp dX1_joined_251 ?_
      refine J_if_le (tgt := 260) dX1_joined_252 (by decide) (fun _ => ?_) (fun c => absurd c (by decide))
      refine J_lload rfl dX1_joined_260 ?_
      refine J_l2i dX1_joined_262 ?_
      exact J_ireturn rfl dX1_joined_263 K
    · replace K := K.2 (fun z => c (zc_le.mpr z))
      refine J_lconst (x := 1) (by decide) (by decide) dX1_joined_206 ?_
      refine J_goto (tgt := 211) dX1_joined_207 (by decide) ?_
      refine J_lstore (loc' := [some (vI x1), some (vL x2), none, some (vL x3), none, some (vL 1), none]) (by decide) rfl dX1_joined_211 ?_
      refine J_goto (tgt := 237) dX1_joined_213 (by decide) ?_
      refine J_lload rfl dX1_joined_237 ?_
      refine J_ldc2 (n := (-1000000000)) (by decide) (by decide) kc_RX1_115 dX1_joined_239 ?_
      refine J_lcmp dX1_joined_242 ?_
      refine J_if_lt (tgt := 255) dX1_joined_243 (by decide) (fun c => absurd c (by decide)) (fun _ => ?_)
      refine J_lload rfl dX1_joined_246 ?_
      refine J_ldc2 (n := 1000000000) (by decide) (by decide) kc_RX1_117 dX1_joined_248 ?_
      refine J_lcmp dX1_joined_251 ?_
      refine J_if_le (tgt := 260) dX1_joined_252 (by decide) (fun _ => ?_) (fun c => absurd c (by decide))
      refine J_lload rfl dX1_joined_260 ?_
      refine J_l2i dX1_joined_262 ?_
      exact J_ireturn rfl dX1_joined_263 K
  replace K := K.2 c
  have cc26 := c
  clear c
  refine J_tsOut (tgt := 232) (by omega) dX1_joined_1 (by decide) ?_
  refine J_ldc2 (n := (-2000000000)) (by decide) (by decide) kc_RX1_113 dX1_joined_232 ?_
  refine J_lstore (loc' := [some (vI x1), some (vL x2), none, some (vL x3), none, some (vL (-2000000000)), none]) (by decide) rfl dX1_joined_235 ?_
  refine J_lload rfl dX1_joined_237 ?_
  refine J_ldc2 (n := (-1000000000)) (by decide) (by decide) kc_RX1_115 dX1_joined_239 ?_
  refine J_lcmp dX1_joined_242 ?_
  refine J_if_lt (tgt := 255) dX1_joined_243 (by decide) (fun _ => ?_) (fun c => absurd c (by decide))
  refine J_ldc (n := (-2000000000)) (by decide) (by decide) kc_RX1_102 dX1_joined_255 ?_
  refine J_goto (tgt := 263) dX1_joined_257 (by decide) ?_
  exact J_ireturn rfl dX1_joined_263 K
def Lp_X1_value_8 (d b : Nat) (Q : Option AV → AH → Prop) (t : Nat) (y3 : Int) (y4 : Int) (y5 : Int) (h : AH) : Prop := J GX (d + 1) b mX1_value Q 8 [some (vR (some 38)), some (vR (some t)), none, some (vI y3), some (vI y4), some (vI y5), none, none] [] h
def Lp_X1_value_56 (d b : Nat) (Q : Option AV → AH → Prop) (t : Nat) (y3 : Int) (y4 : Int) (y5 : Int) (y6 : Int) (y7 : Int) (h : AH) : Prop := J GX (d + 1) b mX1_value Q 56 [some (vR (some 38)), some (vR (some t)), none, some (vI y3), some (vI y4), some (vI y5), some (vI y6), some (vI y7)] [] h
def Lp_X1_value_100 (d b : Nat) (Q : Option AV → AH → Prop) (t : Nat) (y3 : Int) (y4 : Int) (y5 : Int) (y6 : Int) (y7 : Int) (h : AH) : Prop := J GX (d + 1) b mX1_value Q 100 [some (vR (some 38)), some (vR (some t)), none, some (vI y3), some (vI y4), some (vI y5), some (vI y6), some (vI y7)] [] h
set_option maxRecDepth 20000 in
set_option maxHeartbeats 2000000 in
theorem l_X1_value_8 {d b : Nat} {Q : Option AV → AH → Prop} {h : AH} {t : Nat} {y3 : Int} {y4 : Int} {y5 : Int} (kt : Kd GX h t (.inl 5)) (K : (gi h t 2 ≤ y5 → Q (some (vI (-2000000000))) h) ∧ (¬(gi h t 2 ≤ y5) → (y4 < 0 → Q (some (vI (-2000000000))) h) ∧ (¬(y4 < 0) → R32 (y4 + 1) ∧ (gi h t 2 ≤ y4 + 1 → Q (some (vI (-2000000000))) h) ∧ (¬(gi h t 2 ≤ y4 + 1) → ∃ a1 n1, rf h t 3 = some a1 ∧ Kd GX h a1 (.inr (0, n1)) ∧ (0 ≤ y4 ∧ y4 < n1) ∧ ∃ a2 n2, rf h t 3 = some a2 ∧ Kd GX h a2 (.inr (0, n2)) ∧ R32 (y4 + 1) ∧ (0 ≤ y4 + 1 ∧ y4 + 1 < n2) ∧ R32 (y4 + 2) ∧ Lp_X1_value_56 d b Q t y3 (y4 + 2) y5 (gi h a1 y4) (gi h a2 (y4 + 1)) h)))) : Lp_X1_value_8 d b Q t y3 y4 y5 h := by
  unfold Lp_X1_value_8
  refine J_iload rfl dX1_value_8 ?_
  refine J_aload_n rfl dX1_value_10 ?_
  refine J_getI fl_RX1_103 rfl kt dX1_value_11 ?_
  refine J_icmp_ge (tgt := 275) dX1_value_14 (by decide) (fun c => ?_) (fun c => ?_)
  · replace K := K.1 c
    refine J_ldc (n := (-2000000000)) (by decide) (by decide) kc_RX1_102 dX1_value_275 ?_
    exact J_ireturn rfl dX1_value_277 K
  · replace K := K.2 c
    refine J_iload rfl dX1_value_17 ?_
    refine J_if_lt (tgt := 275) dX1_value_19 (by decide) (fun c => ?_) (fun c => ?_)
    · replace K := K.1 c
      refine J_ldc (n := (-2000000000)) (by decide) (by decide) kc_RX1_102 dX1_value_275 ?_
      exact J_ireturn rfl dX1_value_277 K
    · replace K := K.2 c
      refine J_iload rfl dX1_value_22 ?_
      refine J_iconst (by decide) dX1_value_24 ?_
      refine J_iadd K.1 dX1_value_25 ?_
      replace K := K.2
      refine J_aload_n rfl dX1_value_26 ?_
      refine J_getI fl_RX1_103 rfl kt dX1_value_27 ?_
      refine J_icmp_ge (tgt := 275) dX1_value_30 (by decide) (fun c => ?_) (fun c => ?_)
      · replace K := K.1 c
        refine J_ldc (n := (-2000000000)) (by decide) (by decide) kc_RX1_102 dX1_value_275 ?_
        exact J_ireturn rfl dX1_value_277 K
      · replace K := K.2 c
        refine J_aload_n rfl dX1_value_33 ?_
        obtain ⟨a1, n1, ea1, ka1, K⟩ := K
        refine J_getRe (r := a1) fl_RX1_106 rfl kt ea1 dX1_value_34 ?_
        refine J_iload rfl dX1_value_37 ?_
        refine J_iaload ka1 K.1 dX1_value_39 ?_
        replace K := K.2
        refine J_istore (loc' := [some (vR (some 38)), some (vR (some t)), none, some (vI y3), some (vI y4), some (vI y5), some (vI (gi h a1 y4)), none]) (by decide) rfl dX1_value_40 ?_
        refine J_aload_n rfl dX1_value_42 ?_
        obtain ⟨a2, n2, ea2, ka2, K⟩ := K
        refine J_getRe (r := a2) fl_RX1_106 rfl kt ea2 dX1_value_43 ?_
        refine J_iload rfl dX1_value_46 ?_
        refine J_iconst (by decide) dX1_value_48 ?_
        refine J_iadd K.1 dX1_value_49 ?_
        replace K := K.2
        refine J_iaload ka2 K.1 dX1_value_50 ?_
        replace K := K.2
        refine J_istore (loc' := [some (vR (some 38)), some (vR (some t)), none, some (vI y3), some (vI y4), some (vI y5), some (vI (gi h a1 y4)), some (vI (gi h a2 (y4 + 1)))]) (by decide) rfl dX1_value_51 ?_
        refine J_iinc (loc' := [some (vR (some 38)), some (vR (some t)), none, some (vI y3), some (vI (y4 + 2)), some (vI y5), some (vI (gi h a1 y4)), some (vI (gi h a2 (y4 + 1)))]) (by decide) rfl K.1 rfl dX1_value_53 ?_
        replace K := K.2
        exact J_forget (loc' := [some (vR (some 38)), some (vR (some t)), none, some (vI y3), some (vI (y4 + 2)), some (vI y5), some (vI (gi h a1 y4)), some (vI (gi h a2 (y4 + 1)))]) (And.intro (Or.inr rfl) (And.intro (Or.inr rfl) (And.intro (Or.inl rfl) (And.intro (Or.inr rfl) (And.intro (Or.inr rfl) (And.intro (Or.inr rfl) (And.intro (Or.inr rfl) (And.intro (Or.inr rfl) True.intro)))))))) K
set_option maxRecDepth 20000 in
set_option maxHeartbeats 2000000 in
theorem l_X1_value_56 {d b : Nat} {Q : Option AV → AH → Prop} {h : AH} {t : Nat} {y3 : Int} {y4 : Int} {y5 : Int} {y6 : Int} {y7 : Int} (kt : Kd GX h t (.inl 5)) (K : (y6 = 1 → R32 (y3 + 1) ∧ (100 ≤ y3 + 1 → Q (some (vI (-2000000000))) h) ∧ (¬(100 ≤ y3 + 1) → (y6 = 2 → (y7 < 0 → Q (some (vI (-2000000000))) h) ∧ (¬(y7 < 0) → (y7 < 38 → Lp_X1_value_100 d b Q t y3 y4 y5 y6 y7 h) ∧ (¬(y7 < 38) → Q (some (vI (-2000000000))) h))) ∧ (¬(y6 = 2) → Lp_X1_value_100 d b Q t y3 y4 y5 y6 y7 h))) ∧ (¬(y6 = 1) → (y6 = 2 → R32 (y3 + 1) ∧ (100 ≤ y3 + 1 → Q (some (vI (-2000000000))) h) ∧ (¬(100 ≤ y3 + 1) → (y6 = 2 → (y7 < 0 → Q (some (vI (-2000000000))) h) ∧ (¬(y7 < 0) → (y7 < 38 → Lp_X1_value_100 d b Q t y3 y4 y5 y6 y7 h) ∧ (¬(y7 < 38) → Q (some (vI (-2000000000))) h))) ∧ (¬(y6 = 2) → Lp_X1_value_100 d b Q t y3 y4 y5 y6 y7 h))) ∧ (¬(y6 = 2) → (0 ≤ y3 → (y6 = 0 → (0 ≤ y3 ∧ y3 < 100) ∧ Q (some (vI (gi h 40 y3))) h) ∧ (¬(y6 = 0) → (y6 = 3 → (0 ≤ y3 ∧ y3 < 100) ∧ R32 (1 - (gi h 40 y3)) ∧ (0 ≤ y3 ∧ y3 < 100) ∧ ∀ h3, h3 = si h 40 y3 (1 - (gi h 40 y3)) → R32 (y5 + 1) ∧ Lp_X1_value_8 d b Q t y3 y4 (y5 + 1) h3) ∧ (¬(y6 = 3) → (y6 = 4 → (0 ≤ y3 ∧ y3 < 100) ∧ (y6 = 4 → (gi h 40 y3 = 1 → R32 (y5 + 1) ∧ Lp_X1_value_8 d b Q t y3 y7 (y5 + 1) h) ∧ (¬(gi h 40 y3 = 1) → R32 (y3 + (-1)) ∧ R32 (y5 + 1) ∧ Lp_X1_value_8 d b Q t (y3 + (-1)) y4 (y5 + 1) h)) ∧ (¬(y6 = 4) → (gi h 40 y3 = 0 → R32 (y5 + 1) ∧ Lp_X1_value_8 d b Q t y3 y7 (y5 + 1) h) ∧ (¬(gi h 40 y3 = 0) → R32 (y3 + (-1)) ∧ R32 (y5 + 1) ∧ Lp_X1_value_8 d b Q t (y3 + (-1)) y4 (y5 + 1) h))) ∧ (¬(y6 = 4) → (y6 = 5 → (0 ≤ y3 ∧ y3 < 100) ∧ (y6 = 4 → (gi h 40 y3 = 1 → R32 (y5 + 1) ∧ Lp_X1_value_8 d b Q t y3 y7 (y5 + 1) h) ∧ (¬(gi h 40 y3 = 1) → R32 (y3 + (-1)) ∧ R32 (y5 + 1) ∧ Lp_X1_value_8 d b Q t (y3 + (-1)) y4 (y5 + 1) h)) ∧ (¬(y6 = 4) → (gi h 40 y3 = 0 → R32 (y5 + 1) ∧ Lp_X1_value_8 d b Q t y3 y7 (y5 + 1) h) ∧ (¬(gi h 40 y3 = 0) → R32 (y3 + (-1)) ∧ R32 (y5 + 1) ∧ Lp_X1_value_8 d b Q t (y3 + (-1)) y4 (y5 + 1) h))) ∧ (¬(y6 = 5) → (1 ≤ y3 → R32 (y3 + (-1)) ∧ (0 ≤ y3 + (-1) ∧ y3 + (-1) < 100) ∧ R32 ((y3 + (-1)) + 1) ∧ (0 ≤ (y3 + (-1)) + 1 ∧ (y3 + (-1)) + 1 < 100) ∧ WM GX d 0 mX1_joined [vI y6, vL (gi h 40 (y3 + (-1))), vL (gi h 40 ((y3 + (-1)) + 1))] h (fun r h1 => ∃ u3, r = some (vI u3) ∧ (0 ≤ y3 + (-1) ∧ y3 + (-1) < 100) ∧ ∀ h2, h2 = si h1 40 (y3 + (-1)) u3 → (0 ≤ y3 + (-1) ∧ y3 + (-1) < 100) ∧ (u3 = (-2000000000) → Q (some (vI (-2000000000))) h2) ∧ (¬(u3 = (-2000000000)) → R32 (y5 + 1) ∧ Lp_X1_value_8 d b Q t (y3 + (-1)) y4 (y5 + 1) h2))) ∧ (¬(1 ≤ y3) → Q (some (vI (-2000000000))) h)))))) ∧ (¬(0 ≤ y3) → Q (some (vI (-2000000000))) h)))) : Lp_X1_value_56 d b Q t y3 y4 y5 y6 y7 h := by
  unfold Lp_X1_value_56
  refine J_iload rfl dX1_value_56 ?_
  refine J_iconst (by decide) dX1_value_58 ?_
  refine J_icmp_eq (tgt := 68) dX1_value_59 (by decide) (fun c => ?_) (fun c => ?_)
  · replace K := K.1 c
    refine J_iload_n rfl dX1_value_68 ?_
    refine J_iconst (by decide) dX1_value_69 ?_
    refine J_iadd K.1 dX1_value_70 ?_
    replace K := K.2
    refine J_aload_n rfl dX1_value_71 ?_
    refine J_getS (r := 40) fl_RX1_15 rfl (Or.inl rfl) rfl dX1_value_72 ?_
    refine J_alen (by decide) (by decide) (Or.inl rfl) dX1_value_75 ?_
    refine J_icmp_ge (tgt := 97) dX1_value_76 (by decide) (fun c => ?_) (fun c => ?_)
    · replace K := K.1 c
      refine J_ldc (n := (-2000000000)) (by decide) (by decide) kc_RX1_102 dX1_value_97 ?_
      exact J_ireturn rfl dX1_value_99 K
    · replace K := K.2 c
      refine J_iload rfl dX1_value_79 ?_
      refine J_iconst (by decide) dX1_value_81 ?_
      refine J_icmp_ne (tgt := 100) dX1_value_82 (by decide) (fun c => ?_) (fun c => ?_)
      · replace K := K.2 c
        exact J_forget (loc' := [some (vR (some 38)), some (vR (some t)), none, some (vI y3), some (vI y4), some (vI y5), some (vI y6), some (vI y7)]) (And.intro (Or.inr rfl) (And.intro (Or.inr rfl) (And.intro (Or.inl rfl) (And.intro (Or.inr rfl) (And.intro (Or.inr rfl) (And.intro (Or.inr rfl) (And.intro (Or.inr rfl) (And.intro (Or.inr rfl) True.intro)))))))) K
      · replace K := K.1 c
        refine J_iload rfl dX1_value_85 ?_
        refine J_if_lt (tgt := 97) dX1_value_87 (by decide) (fun c => ?_) (fun c => ?_)
        · replace K := K.1 c
          refine J_ldc (n := (-2000000000)) (by decide) (by decide) kc_RX1_102 dX1_value_97 ?_
          exact J_ireturn rfl dX1_value_99 K
        · replace K := K.2 c
          refine J_iload rfl dX1_value_90 ?_
          refine J_bipush (by decide) (by decide) dX1_value_92 ?_
          refine J_icmp_lt (tgt := 100) dX1_value_94 (by decide) (fun c => ?_) (fun c => ?_)
          · replace K := K.1 c
            exact J_forget (loc' := [some (vR (some 38)), some (vR (some t)), none, some (vI y3), some (vI y4), some (vI y5), some (vI y6), some (vI y7)]) (And.intro (Or.inr rfl) (And.intro (Or.inr rfl) (And.intro (Or.inl rfl) (And.intro (Or.inr rfl) (And.intro (Or.inr rfl) (And.intro (Or.inr rfl) (And.intro (Or.inr rfl) (And.intro (Or.inr rfl) True.intro)))))))) K
          · replace K := K.2 c
            refine J_ldc (n := (-2000000000)) (by decide) (by decide) kc_RX1_102 dX1_value_97 ?_
            exact J_ireturn rfl dX1_value_99 K
  · replace K := K.2 c
    refine J_iload rfl dX1_value_62 ?_
    refine J_iconst (by decide) dX1_value_64 ?_
    refine J_icmp_ne (tgt := 130) dX1_value_65 (by decide) (fun c => ?_) (fun c => ?_)
    · replace K := K.2 c
      refine J_iload_n rfl dX1_value_130 ?_
      refine J_if_ge (tgt := 137) dX1_value_131 (by decide) (fun c => ?_) (fun c => ?_)
      · replace K := K.1 c
        refine J_iload rfl dX1_value_137 ?_
        refine J_if_ne (tgt := 149) dX1_value_139 (by decide) (fun c => ?_) (fun c => ?_)
        · replace K := K.2 c
          refine J_iload rfl dX1_value_149 ?_
          refine J_iconst (by decide) dX1_value_151 ?_
          refine J_icmp_ne (tgt := 172) dX1_value_152 (by decide) (fun c => ?_) (fun c => ?_)
          · replace K := K.2 c
            refine J_iload rfl dX1_value_172 ?_
            refine J_iconst (by decide) dX1_value_174 ?_
            refine J_icmp_eq (tgt := 184) dX1_value_175 (by decide) (fun c => ?_) (fun c => ?_)
            · replace K := K.1 c
              refine J_aload_n rfl dX1_value_184 ?_
              refine J_getS (r := 40) fl_RX1_15 rfl (Or.inl rfl) rfl dX1_value_185 ?_
              refine J_iload_n rfl dX1_value_188 ?_
              refine J_iaload (Or.inl rfl) K.1 dX1_value_189 ?_
              replace K := K.2
              refine J_iload rfl dX1_value_190 ?_
              refine J_iconst (by decide) dX1_value_192 ?_
              refine J_icmp_ne (tgt := 200) dX1_value_193 (by decide) (fun c => ?_) (fun c => ?_)
              · replace K := K.2 c
                refine J_iconst (by decide) dX1_value_200 ?_
                refine J_icmp_ne (tgt := 211) dX1_value_201 (by decide) (fun c => ?_) (fun c => ?_)
                · replace K := K.2 c
                  refine J_iinc (loc' := [some (vR (some 38)), some (vR (some t)), none, some (vI (y3 + (-1))), some (vI y4), some (vI y5), some (vI y6), some (vI y7)]) (by decide) rfl K.1 rfl dX1_value_211 ?_
                  replace K := K.2
                  refine J_goto (tgt := 269) dX1_value_214 (by decide) ?_
                  refine J_iinc (loc' := [some (vR (some 38)), some (vR (some t)), none, some (vI (y3 + (-1))), some (vI y4), some (vI (y5 + 1)), some (vI y6), some (vI y7)]) (by decide) rfl K.1 rfl dX1_value_269 ?_
                  replace K := K.2
                  refine J_goto (tgt := 8) dX1_value_272 (by decide) ?_
                  exact J_forget (loc' := [some (vR (some 38)), some (vR (some t)), none, some (vI (y3 + (-1))), some (vI y4), some (vI (y5 + 1)), none, none]) (And.intro (Or.inr rfl) (And.intro (Or.inr rfl) (And.intro (Or.inl rfl) (And.intro (Or.inr rfl) (And.intro (Or.inr rfl) (And.intro (Or.inr rfl) (And.intro (Or.inl rfl) (And.intro (Or.inl rfl) True.intro)))))))) K
                · replace K := K.1 c
                  refine J_iload rfl dX1_value_204 ?_
                  refine J_istore (loc' := [some (vR (some 38)), some (vR (some t)), none, some (vI y3), some (vI y7), some (vI y5), some (vI y6), some (vI y7)]) (by decide) rfl dX1_value_206 ?_
                  refine J_goto (tgt := 269) dX1_value_208 (by decide) ?_
                  refine J_iinc (loc' := [some (vR (some 38)), some (vR (some t)), none, some (vI y3), some (vI y7), some (vI (y5 + 1)), some (vI y6), some (vI y7)]) (by decide) rfl K.1 rfl dX1_value_269 ?_
                  replace K := K.2
                  refine J_goto (tgt := 8) dX1_value_272 (by decide) ?_
                  exact J_forget (loc' := [some (vR (some 38)), some (vR (some t)), none, some (vI y3), some (vI y7), some (vI (y5 + 1)), none, none]) (And.intro (Or.inr rfl) (And.intro (Or.inr rfl) (And.intro (Or.inl rfl) (And.intro (Or.inr rfl) (And.intro (Or.inr rfl) (And.intro (Or.inr rfl) (And.intro (Or.inl rfl) (And.intro (Or.inl rfl) True.intro)))))))) K
              · replace K := K.1 c
                refine J_iconst (by decide) dX1_value_196 ?_
                refine J_goto (tgt := 201) dX1_value_197 (by decide) ?_
                refine J_icmp_ne (tgt := 211) dX1_value_201 (by decide) (fun c => ?_) (fun c => ?_)
                · replace K := K.2 c
                  refine J_iinc (loc' := [some (vR (some 38)), some (vR (some t)), none, some (vI (y3 + (-1))), some (vI y4), some (vI y5), some (vI y6), some (vI y7)]) (by decide) rfl K.1 rfl dX1_value_211 ?_
                  replace K := K.2
                  refine J_goto (tgt := 269) dX1_value_214 (by decide) ?_
                  refine J_iinc (loc' := [some (vR (some 38)), some (vR (some t)), none, some (vI (y3 + (-1))), some (vI y4), some (vI (y5 + 1)), some (vI y6), some (vI y7)]) (by decide) rfl K.1 rfl dX1_value_269 ?_
                  replace K := K.2
                  refine J_goto (tgt := 8) dX1_value_272 (by decide) ?_
                  exact J_forget (loc' := [some (vR (some 38)), some (vR (some t)), none, some (vI (y3 + (-1))), some (vI y4), some (vI (y5 + 1)), none, none]) (And.intro (Or.inr rfl) (And.intro (Or.inr rfl) (And.intro (Or.inl rfl) (And.intro (Or.inr rfl) (And.intro (Or.inr rfl) (And.intro (Or.inr rfl) (And.intro (Or.inl rfl) (And.intro (Or.inl rfl) True.intro)))))))) K
                · replace K := K.1 c
                  refine J_iload rfl dX1_value_204 ?_
                  refine J_istore (loc' := [some (vR (some 38)), some (vR (some t)), none, some (vI y3), some (vI y7), some (vI y5), some (vI y6), some (vI y7)]) (by decide) rfl dX1_value_206 ?_
                  refine J_goto (tgt := 269) dX1_value_208 (by decide) ?_
                  refine J_iinc (loc' := [some (vR (some 38)), some (vR (some t)), none, some (vI y3), some (vI y7), some (vI (y5 + 1)), some (vI y6), some (vI y7)]) (by decide) rfl K.1 rfl dX1_value_269 ?_
                  replace K := K.2
                  refine J_goto (tgt := 8) dX1_value_272 (by decide) ?_
                  exact J_forget (loc' := [some (vR (some 38)), some (vR (some t)), none, some (vI y3), some (vI y7), some (vI (y5 + 1)), none, none]) (And.intro (Or.inr rfl) (And.intro (Or.inr rfl) (And.intro (Or.inl rfl) (And.intro (Or.inr rfl) (And.intro (Or.inr rfl) (And.intro (Or.inr rfl) (And.intro (Or.inl rfl) (And.intro (Or.inl rfl) True.intro)))))))) K
            · replace K := K.2 c
              refine J_iload rfl dX1_value_178 ?_
              refine J_iconst (by decide) dX1_value_180 ?_
              refine J_icmp_ne (tgt := 217) dX1_value_181 (by decide) (fun c => ?_) (fun c => ?_)
              · replace K := K.2 c
                refine J_iload_n rfl dX1_value_217 ?_
                refine J_iconst (by decide) dX1_value_218 ?_
                refine J_icmp_ge (tgt := 225) dX1_value_219 (by decide) (fun c => ?_) (fun c => ?_)
                · replace K := K.1 c
                  refine J_iinc (loc' := [some (vR (some 38)), some (vR (some t)), none, some (vI (y3 + (-1))), some (vI y4), some (vI y5), some (vI y6), some (vI y7)]) (by decide) rfl K.1 rfl dX1_value_225 ?_
                  replace K := K.2
                  refine J_aload_n rfl dX1_value_228 ?_
                  refine J_getS (r := 40) fl_RX1_15 rfl (Or.inl rfl) rfl dX1_value_229 ?_
                  refine J_iload_n rfl dX1_value_232 ?_
                  refine J_iload rfl dX1_value_233 ?_
                  refine J_aload_n rfl dX1_value_235 ?_
                  refine J_getS (r := 40) fl_RX1_15 rfl (Or.inl rfl) rfl dX1_value_236 ?_
                  refine J_iload_n rfl dX1_value_239 ?_
                  refine J_iaload (Or.inl rfl) K.1 dX1_value_240 ?_
                  replace K := K.2
                  refine J_i2l dX1_value_241 ?_
                  refine J_aload_n rfl dX1_value_242 ?_
                  refine J_getS (r := 40) fl_RX1_15 rfl (Or.inl rfl) rfl dX1_value_243 ?_
                  refine J_iload_n rfl dX1_value_246 ?_
                  refine J_iconst (by decide) dX1_value_247 ?_
                  refine J_iadd K.1 dX1_value_248 ?_
                  replace K := K.2
                  refine J_iaload (Or.inl rfl) K.1 dX1_value_249 ?_
                  replace K := K.2
                  refine J_i2l dX1_value_250 ?_
                  refine J_b0 (J_callS (b1 := 0) (vs := [vI y6, vL (gi h 40 (y3 + (-1))), vL (gi h 40 ((y3 + (-1)) + 1))]) (rest := [vI (y3 + (-1)), vR (some 40)]) (Or.inl rfl) ml_RX1_109 rfl (by decide) (Nat.le_of_ble_eq_true rfl) rfl dX1_value_251 (WM_mono K (fun r h1 K => ?_)))
                  obtain ⟨u3, rfl, K⟩ := K
                  show J _ _ _ _ _ _ _ [vI u3, vI (y3 + (-1)), vR (some 40)] _
                  refine J_iastore (Or.inl rfl) K.1 dX1_value_254 ?_
                  replace K := K.2
                  replace K := K _ rfl
                  refine J_aload_n rfl dX1_value_255 ?_
                  refine J_getS (r := 40) fl_RX1_15 rfl (Or.inl rfl) rfl dX1_value_256 ?_
                  refine J_iload_n rfl dX1_value_259 ?_
                  refine J_ialoade (Or.inl rfl) K.1 gi_eq dX1_value_260 ?_
                  replace K := K.2
                  refine J_ldc (n := (-2000000000)) (by decide) (by decide) kc_RX1_102 dX1_value_261 ?_
                  refine J_icmp_ne (tgt := 269) dX1_value_263 (by decide) (fun c => ?_) (fun c => ?_)
                  · replace K := K.2 c
                    refine J_iinc (loc' := [some (vR (some 38)), some (vR (some t)), none, some (vI (y3 + (-1))), some (vI y4), some (vI (y5 + 1)), some (vI y6), some (vI y7)]) (by decide) rfl K.1 rfl dX1_value_269 ?_
                    replace K := K.2
                    refine J_goto (tgt := 8) dX1_value_272 (by decide) ?_
                    exact J_forget (loc' := [some (vR (some 38)), some (vR (some t)), none, some (vI (y3 + (-1))), some (vI y4), some (vI (y5 + 1)), none, none]) (And.intro (Or.inr rfl) (And.intro (Or.inr rfl) (And.intro (Or.inl rfl) (And.intro (Or.inr rfl) (And.intro (Or.inr rfl) (And.intro (Or.inr rfl) (And.intro (Or.inl rfl) (And.intro (Or.inl rfl) True.intro)))))))) K
                  · replace K := K.1 c
                    refine J_ldc (n := (-2000000000)) (by decide) (by decide) kc_RX1_102 dX1_value_266 ?_
                    exact J_ireturn rfl dX1_value_268 K
                · replace K := K.2 c
                  refine J_ldc (n := (-2000000000)) (by decide) (by decide) kc_RX1_102 dX1_value_222 ?_
                  exact J_ireturn rfl dX1_value_224 K
              · replace K := K.1 c
                refine J_aload_n rfl dX1_value_184 ?_
                refine J_getS (r := 40) fl_RX1_15 rfl (Or.inl rfl) rfl dX1_value_185 ?_
                refine J_iload_n rfl dX1_value_188 ?_
                refine J_iaload (Or.inl rfl) K.1 dX1_value_189 ?_
                replace K := K.2
                refine J_iload rfl dX1_value_190 ?_
                refine J_iconst (by decide) dX1_value_192 ?_
                refine J_icmp_ne (tgt := 200) dX1_value_193 (by decide) (fun c => ?_) (fun c => ?_)
                · replace K := K.2 c
                  refine J_iconst (by decide) dX1_value_200 ?_
                  refine J_icmp_ne (tgt := 211) dX1_value_201 (by decide) (fun c => ?_) (fun c => ?_)
                  · replace K := K.2 c
                    refine J_iinc (loc' := [some (vR (some 38)), some (vR (some t)), none, some (vI (y3 + (-1))), some (vI y4), some (vI y5), some (vI y6), some (vI y7)]) (by decide) rfl K.1 rfl dX1_value_211 ?_
                    replace K := K.2
                    refine J_goto (tgt := 269) dX1_value_214 (by decide) ?_
                    refine J_iinc (loc' := [some (vR (some 38)), some (vR (some t)), none, some (vI (y3 + (-1))), some (vI y4), some (vI (y5 + 1)), some (vI y6), some (vI y7)]) (by decide) rfl K.1 rfl dX1_value_269 ?_
                    replace K := K.2
                    refine J_goto (tgt := 8) dX1_value_272 (by decide) ?_
                    exact J_forget (loc' := [some (vR (some 38)), some (vR (some t)), none, some (vI (y3 + (-1))), some (vI y4), some (vI (y5 + 1)), none, none]) (And.intro (Or.inr rfl) (And.intro (Or.inr rfl) (And.intro (Or.inl rfl) (And.intro (Or.inr rfl) (And.intro (Or.inr rfl) (And.intro (Or.inr rfl) (And.intro (Or.inl rfl) (And.intro (Or.inl rfl) True.intro)))))))) K
                  · replace K := K.1 c
                    refine J_iload rfl dX1_value_204 ?_
                    refine J_istore (loc' := [some (vR (some 38)), some (vR (some t)), none, some (vI y3), some (vI y7), some (vI y5), some (vI y6), some (vI y7)]) (by decide) rfl dX1_value_206 ?_
                    refine J_goto (tgt := 269) dX1_value_208 (by decide) ?_
                    refine J_iinc (loc' := [some (vR (some 38)), some (vR (some t)), none, some (vI y3), some (vI y7), some (vI (y5 + 1)), some (vI y6), some (vI y7)]) (by decide) rfl K.1 rfl dX1_value_269 ?_
                    replace K := K.2
                    refine J_goto (tgt := 8) dX1_value_272 (by decide) ?_
                    exact J_forget (loc' := [some (vR (some 38)), some (vR (some t)), none, some (vI y3), some (vI y7), some (vI (y5 + 1)), none, none]) (And.intro (Or.inr rfl) (And.intro (Or.inr rfl) (And.intro (Or.inl rfl) (And.intro (Or.inr rfl) (And.intro (Or.inr rfl) (And.intro (Or.inr rfl) (And.intro (Or.inl rfl) (And.intro (Or.inl rfl) True.intro)))))))) K
                · replace K := K.1 c
                  refine J_iconst (by decide) dX1_value_196 ?_
                  refine J_goto (tgt := 201) dX1_value_197 (by decide) ?_
                  refine J_icmp_ne (tgt := 211) dX1_value_201 (by decide) (fun c => ?_) (fun c => ?_)
                  · replace K := K.2 c
                    refine J_iinc (loc' := [some (vR (some 38)), some (vR (some t)), none, some (vI (y3 + (-1))), some (vI y4), some (vI y5), some (vI y6), some (vI y7)]) (by decide) rfl K.1 rfl dX1_value_211 ?_
                    replace K := K.2
                    refine J_goto (tgt := 269) dX1_value_214 (by decide) ?_
                    refine J_iinc (loc' := [some (vR (some 38)), some (vR (some t)), none, some (vI (y3 + (-1))), some (vI y4), some (vI (y5 + 1)), some (vI y6), some (vI y7)]) (by decide) rfl K.1 rfl dX1_value_269 ?_
                    replace K := K.2
                    refine J_goto (tgt := 8) dX1_value_272 (by decide) ?_
                    exact J_forget (loc' := [some (vR (some 38)), some (vR (some t)), none, some (vI (y3 + (-1))), some (vI y4), some (vI (y5 + 1)), none, none]) (And.intro (Or.inr rfl) (And.intro (Or.inr rfl) (And.intro (Or.inl rfl) (And.intro (Or.inr rfl) (And.intro (Or.inr rfl) (And.intro (Or.inr rfl) (And.intro (Or.inl rfl) (And.intro (Or.inl rfl) True.intro)))))))) K
                  · replace K := K.1 c
                    refine J_iload rfl dX1_value_204 ?_
                    refine J_istore (loc' := [some (vR (some 38)), some (vR (some t)), none, some (vI y3), some (vI y7), some (vI y5), some (vI y6), some (vI y7)]) (by decide) rfl dX1_value_206 ?_
                    refine J_goto (tgt := 269) dX1_value_208 (by decide) ?_
                    refine J_iinc (loc' := [some (vR (some 38)), some (vR (some t)), none, some (vI y3), some (vI y7), some (vI (y5 + 1)), some (vI y6), some (vI y7)]) (by decide) rfl K.1 rfl dX1_value_269 ?_
                    replace K := K.2
                    refine J_goto (tgt := 8) dX1_value_272 (by decide) ?_
                    exact J_forget (loc' := [some (vR (some 38)), some (vR (some t)), none, some (vI y3), some (vI y7), some (vI (y5 + 1)), none, none]) (And.intro (Or.inr rfl) (And.intro (Or.inr rfl) (And.intro (Or.inl rfl) (And.intro (Or.inr rfl) (And.intro (Or.inr rfl) (And.intro (Or.inr rfl) (And.intro (Or.inl rfl) (And.intro (Or.inl rfl) True.intro)))))))) K
          · replace K := K.1 c
            refine J_aload_n rfl dX1_value_155 ?_
            refine J_getS (r := 40) fl_RX1_15 rfl (Or.inl rfl) rfl dX1_value_156 ?_
            refine J_iload_n rfl dX1_value_159 ?_
            refine J_iconst (by decide) dX1_value_160 ?_
            refine J_aload_n rfl dX1_value_161 ?_
            refine J_getS (r := 40) fl_RX1_15 rfl (Or.inl rfl) rfl dX1_value_162 ?_
            refine J_iload_n rfl dX1_value_165 ?_
            refine J_iaload (Or.inl rfl) K.1 dX1_value_166 ?_
            replace K := K.2
            refine J_isub K.1 dX1_value_167 ?_
            replace K := K.2
            refine J_iastore (Or.inl rfl) K.1 dX1_value_168 ?_
            replace K := K.2
            replace K := K _ rfl
            refine J_goto (tgt := 269) dX1_value_169 (by decide) ?_
            refine J_iinc (loc' := [some (vR (some 38)), some (vR (some t)), none, some (vI y3), some (vI y4), some (vI (y5 + 1)), some (vI y6), some (vI y7)]) (by decide) rfl K.1 rfl dX1_value_269 ?_
            replace K := K.2
            refine J_goto (tgt := 8) dX1_value_272 (by decide) ?_
            exact J_forget (loc' := [some (vR (some 38)), some (vR (some t)), none, some (vI y3), some (vI y4), some (vI (y5 + 1)), none, none]) (And.intro (Or.inr rfl) (And.intro (Or.inr rfl) (And.intro (Or.inl rfl) (And.intro (Or.inr rfl) (And.intro (Or.inr rfl) (And.intro (Or.inr rfl) (And.intro (Or.inl rfl) (And.intro (Or.inl rfl) True.intro)))))))) K
        · replace K := K.1 c
          refine J_aload_n rfl dX1_value_142 ?_
          refine J_getS (r := 40) fl_RX1_15 rfl (Or.inl rfl) rfl dX1_value_143 ?_
          refine J_iload_n rfl dX1_value_146 ?_
          refine J_iaload (Or.inl rfl) K.1 dX1_value_147 ?_
          replace K := K.2
          exact J_ireturn rfl dX1_value_148 K
      · replace K := K.2 c
        refine J_ldc (n := (-2000000000)) (by decide) (by decide) kc_RX1_102 dX1_value_134 ?_
        exact J_ireturn rfl dX1_value_136 K
    · replace K := K.1 c
      refine J_iload_n rfl dX1_value_68 ?_
      refine J_iconst (by decide) dX1_value_69 ?_
      refine J_iadd K.1 dX1_value_70 ?_
      replace K := K.2
      refine J_aload_n rfl dX1_value_71 ?_
      refine J_getS (r := 40) fl_RX1_15 rfl (Or.inl rfl) rfl dX1_value_72 ?_
      refine J_alen (by decide) (by decide) (Or.inl rfl) dX1_value_75 ?_
      refine J_icmp_ge (tgt := 97) dX1_value_76 (by decide) (fun c => ?_) (fun c => ?_)
      · replace K := K.1 c
        refine J_ldc (n := (-2000000000)) (by decide) (by decide) kc_RX1_102 dX1_value_97 ?_
        exact J_ireturn rfl dX1_value_99 K
      · replace K := K.2 c
        refine J_iload rfl dX1_value_79 ?_
        refine J_iconst (by decide) dX1_value_81 ?_
        refine J_icmp_ne (tgt := 100) dX1_value_82 (by decide) (fun c => ?_) (fun c => ?_)
        · replace K := K.2 c
          exact J_forget (loc' := [some (vR (some 38)), some (vR (some t)), none, some (vI y3), some (vI y4), some (vI y5), some (vI y6), some (vI y7)]) (And.intro (Or.inr rfl) (And.intro (Or.inr rfl) (And.intro (Or.inl rfl) (And.intro (Or.inr rfl) (And.intro (Or.inr rfl) (And.intro (Or.inr rfl) (And.intro (Or.inr rfl) (And.intro (Or.inr rfl) True.intro)))))))) K
        · replace K := K.1 c
          refine J_iload rfl dX1_value_85 ?_
          refine J_if_lt (tgt := 97) dX1_value_87 (by decide) (fun c => ?_) (fun c => ?_)
          · replace K := K.1 c
            refine J_ldc (n := (-2000000000)) (by decide) (by decide) kc_RX1_102 dX1_value_97 ?_
            exact J_ireturn rfl dX1_value_99 K
          · replace K := K.2 c
            refine J_iload rfl dX1_value_90 ?_
            refine J_bipush (by decide) (by decide) dX1_value_92 ?_
            refine J_icmp_lt (tgt := 100) dX1_value_94 (by decide) (fun c => ?_) (fun c => ?_)
            · replace K := K.1 c
              exact J_forget (loc' := [some (vR (some 38)), some (vR (some t)), none, some (vI y3), some (vI y4), some (vI y5), some (vI y6), some (vI y7)]) (And.intro (Or.inr rfl) (And.intro (Or.inr rfl) (And.intro (Or.inl rfl) (And.intro (Or.inr rfl) (And.intro (Or.inr rfl) (And.intro (Or.inr rfl) (And.intro (Or.inr rfl) (And.intro (Or.inr rfl) True.intro)))))))) K
            · replace K := K.2 c
              refine J_ldc (n := (-2000000000)) (by decide) (by decide) kc_RX1_102 dX1_value_97 ?_
              exact J_ireturn rfl dX1_value_99 K
set_option maxRecDepth 20000 in
set_option maxHeartbeats 2000000 in
theorem l_X1_value_100 {d b : Nat} {Q : Option AV → AH → Prop} {h : AH} {t : Nat} {y3 : Int} {y4 : Int} {y5 : Int} {y6 : Int} {y7 : Int} (kt : Kd GX h t (.inl 5)) (K : R32 (y3 + 1) ∧ (y6 = 1 → (0 ≤ y3 + 1 ∧ y3 + 1 < 100) ∧ ∀ h2, h2 = si h 40 (y3 + 1) y7 → R32 (y5 + 1) ∧ Lp_X1_value_8 d b Q t (y3 + 1) y4 (y5 + 1) h2) ∧ (¬(y6 = 1) → (0 ≤ y7 ∧ y7 < 38) ∧ (0 ≤ y3 + 1 ∧ y3 + 1 < 100) ∧ ∀ h1, h1 = si h 40 (y3 + 1) (gi h 39 y7) → R32 (y5 + 1) ∧ Lp_X1_value_8 d b Q t (y3 + 1) y4 (y5 + 1) h1)) : Lp_X1_value_100 d b Q t y3 y4 y5 y6 y7 h := by
  unfold Lp_X1_value_100
  refine J_iinc (loc' := [some (vR (some 38)), some (vR (some t)), none, some (vI (y3 + 1)), some (vI y4), some (vI y5), some (vI y6), some (vI y7)]) (by decide) rfl K.1 rfl dX1_value_100 ?_
  replace K := K.2
  refine J_aload_n rfl dX1_value_103 ?_
  refine J_getS (r := 40) fl_RX1_15 rfl (Or.inl rfl) rfl dX1_value_104 ?_
  refine J_iload_n rfl dX1_value_107 ?_
  refine J_iload rfl dX1_value_108 ?_
  refine J_iconst (by decide) dX1_value_110 ?_
  refine J_icmp_ne (tgt := 119) dX1_value_111 (by decide) (fun c => ?_) (fun c => ?_)
  · replace K := K.2 c
    refine J_aload_n rfl dX1_value_119 ?_
    refine J_getS (r := 39) fl_RX1_9 rfl (Or.inl rfl) rfl dX1_value_120 ?_
    refine J_iload rfl dX1_value_123 ?_
    refine J_iaload (Or.inl rfl) K.1 dX1_value_125 ?_
    replace K := K.2
    refine J_iastore (Or.inl rfl) K.1 dX1_value_126 ?_
    replace K := K.2
    replace K := K _ rfl
    refine J_goto (tgt := 269) dX1_value_127 (by decide) ?_
    refine J_iinc (loc' := [some (vR (some 38)), some (vR (some t)), none, some (vI (y3 + 1)), some (vI y4), some (vI (y5 + 1)), some (vI y6), some (vI y7)]) (by decide) rfl K.1 rfl dX1_value_269 ?_
    replace K := K.2
    refine J_goto (tgt := 8) dX1_value_272 (by decide) ?_
    exact J_forget (loc' := [some (vR (some 38)), some (vR (some t)), none, some (vI (y3 + 1)), some (vI y4), some (vI (y5 + 1)), none, none]) (And.intro (Or.inr rfl) (And.intro (Or.inr rfl) (And.intro (Or.inl rfl) (And.intro (Or.inr rfl) (And.intro (Or.inr rfl) (And.intro (Or.inr rfl) (And.intro (Or.inl rfl) (And.intro (Or.inl rfl) True.intro)))))))) K
  · replace K := K.1 c
    refine J_iload rfl dX1_value_114 ?_
    refine J_goto (tgt := 126) dX1_value_116 (by decide) ?_
    refine J_iastore (Or.inl rfl) K.1 dX1_value_126 ?_
    replace K := K.2
    replace K := K _ rfl
    refine J_goto (tgt := 269) dX1_value_127 (by decide) ?_
    refine J_iinc (loc' := [some (vR (some 38)), some (vR (some t)), none, some (vI (y3 + 1)), some (vI y4), some (vI (y5 + 1)), some (vI y6), some (vI y7)]) (by decide) rfl K.1 rfl dX1_value_269 ?_
    replace K := K.2
    refine J_goto (tgt := 8) dX1_value_272 (by decide) ?_
    exact J_forget (loc' := [some (vR (some 38)), some (vR (some t)), none, some (vI (y3 + 1)), some (vI y4), some (vI (y5 + 1)), none, none]) (And.intro (Or.inr rfl) (And.intro (Or.inr rfl) (And.intro (Or.inl rfl) (And.intro (Or.inr rfl) (And.intro (Or.inr rfl) (And.intro (Or.inr rfl) (And.intro (Or.inl rfl) (And.intro (Or.inl rfl) True.intro)))))))) K
set_option maxRecDepth 20000 in
set_option maxHeartbeats 2000000 in
theorem w_X1_value {d b : Nat} {Q : Option AV → AH → Prop} {h : AH} {t : Nat} {x2 : Int} (kt : Kd GX h t (.inl 5)) (K : Lp_X1_value_8 d b Q t (-1) x2 0 h) : WM GX (d + 1) b mX1_value [vR (some 38), vR (some t), vI x2] h Q := by
  refine WM_introE (loc' := [some (vR (some 38)), some (vR (some t)), some (vI x2), none, none, none, none, none]) rfl (by decide) (Nat.le_of_ble_eq_true rfl) ?_
  refine J_iconst (by decide) dX1_value_0 ?_
  refine J_istore_n (loc' := [some (vR (some 38)), some (vR (some t)), some (vI x2), some (vI (-1)), none, none, none, none]) (by decide) rfl dX1_value_1 ?_
  refine J_iload_n rfl dX1_value_2 ?_
  refine J_istore (loc' := [some (vR (some 38)), some (vR (some t)), some (vI x2), some (vI (-1)), some (vI x2), none, none, none]) (by decide) rfl dX1_value_3 ?_
  refine J_iconst (by decide) dX1_value_5 ?_
  refine J_istore (loc' := [some (vR (some 38)), some (vR (some t)), some (vI x2), some (vI (-1)), some (vI x2), some (vI 0), none, none]) (by decide) rfl dX1_value_6 ?_
  exact J_forget (loc' := [some (vR (some 38)), some (vR (some t)), none, some (vI (-1)), some (vI x2), some (vI 0), none, none]) (And.intro (Or.inr rfl) (And.intro (Or.inr rfl) (And.intro (Or.inl rfl) (And.intro (Or.inr rfl) (And.intro (Or.inr rfl) (And.intro (Or.inr rfl) (And.intro (Or.inl rfl) (And.intro (Or.inl rfl) True.intro)))))))) K
set_option maxRecDepth 20000 in
set_option maxHeartbeats 2000000 in
theorem w_X1_learnOf {d b : Nat} {Q : Option AV → AH → Prop} {h : AH} {o : Nat} {x2 : Int} {x3 : Int} {x4 : Int} {x5 : Int} (ho : isl o) (K : ∀ h1, h1 = si h 39 0 x2 → (0 ≤ x2 ∧ x2 < 8) ∧ ∀ h2, h2 = si h1 39 1 (gi h (o + 2) x2) → (0 ≤ x2 ∧ x2 < 8) ∧ ∀ h3, h3 = si h2 39 2 (gi h (o + 3) x2) → (0 ≤ x2 ∧ x2 < 8) ∧ ∀ h4, h4 = si h3 39 3 (gi h (o + 4) x2) → ∀ h5, h5 = si h4 39 4 x3 → ((0 : Int) ≤ x3 ∧ x3 < gi h5 o 0 → (0 ≤ x3 ∧ x3 < 8) ∧ ∀ h12, h12 = si h5 39 5 (gi h (o + 1) x3) → ∀ h13, h13 = si h12 39 6 x4 → ∀ h14, h14 = si h13 39 7 x5 → (0 ≤ x2 ∧ x2 < 8) ∧ ∀ h15, h15 = si h14 39 8 (gi h (o + 8) x2) → ∀ h16, h16 = si h15 39 9 (gi h o 14) → ∀ h17, h17 = si h16 39 10 (gi h o 15) → Q none h17) ∧ (¬((0 : Int) ≤ x3 ∧ x3 < gi h5 o 0) → ∀ h6, h6 = si h5 39 5 (-1) → ∀ h7, h7 = si h6 39 6 x4 → ∀ h8, h8 = si h7 39 7 x5 → (0 ≤ x2 ∧ x2 < 8) ∧ ∀ h9, h9 = si h8 39 8 (gi h (o + 8) x2) → ∀ h10, h10 = si h9 39 9 (gi h o 14) → ∀ h11, h11 = si h10 39 10 (gi h o 15) → Q none h11)) : WM GX (d + 1) b mX1_learnOf [vR (some 38), vR (some o), vI x2, vI x3, vI x4, vI x5] h Q := by
  refine WM_introE (loc' := [some (vR (some 38)), some (vR (some o)), some (vI x2), some (vI x3), some (vI x4), some (vI x5)]) rfl (by decide) (Nat.le_of_ble_eq_true rfl) ?_
  refine J_aload_n rfl dX1_learnOf_0 ?_
  refine J_getS (r := 39) fl_RX1_9 rfl (Or.inl rfl) rfl dX1_learnOf_1 ?_
  refine J_iconst (by decide) dX1_learnOf_4 ?_
  refine J_iload_n rfl dX1_learnOf_5 ?_
  refine J_iastore (Or.inl rfl) (by decide) dX1_learnOf_6 ?_
  replace K := K _ rfl
  refine J_aload_n rfl dX1_learnOf_7 ?_
  refine J_getS (r := 39) fl_RX1_9 rfl (Or.inl rfl) rfl dX1_learnOf_8 ?_
  refine J_iconst (by decide) dX1_learnOf_11 ?_
  refine J_aload_n rfl dX1_learnOf_12 ?_
  refine J_getS (r := o + 2) fl_RX1_41 rfl (Or.inl (gx_isl ho)) (gx_r2 ho) dX1_learnOf_13 ?_
  refine J_iload_n rfl dX1_learnOf_16 ?_
  refine J_ialoade (Or.inl (gx_a2 ho)) K.1 (gi_no (by omega)) dX1_learnOf_17 ?_
  replace K := K.2
  refine J_iastore (Or.inl rfl) (by decide) dX1_learnOf_18 ?_
  replace K := K _ rfl
  refine J_aload_n rfl dX1_learnOf_19 ?_
  refine J_getS (r := 39) fl_RX1_9 rfl (Or.inl rfl) rfl dX1_learnOf_20 ?_
  refine J_iconst (by decide) dX1_learnOf_23 ?_
  refine J_aload_n rfl dX1_learnOf_24 ?_
  refine J_getS (r := o + 3) fl_RX1_44 rfl (Or.inl (gx_isl ho)) (gx_r3 ho) dX1_learnOf_25 ?_
  refine J_iload_n rfl dX1_learnOf_28 ?_
  refine J_ialoade (Or.inl (gx_a3 ho)) K.1 (Eq.trans (gi_no (by omega)) (gi_no (by omega))) dX1_learnOf_29 ?_
  replace K := K.2
  refine J_iastore (Or.inl rfl) (by decide) dX1_learnOf_30 ?_
  replace K := K _ rfl
  refine J_aload_n rfl dX1_learnOf_31 ?_
  refine J_getS (r := 39) fl_RX1_9 rfl (Or.inl rfl) rfl dX1_learnOf_32 ?_
  refine J_iconst (by decide) dX1_learnOf_35 ?_
  refine J_aload_n rfl dX1_learnOf_36 ?_
  refine J_getS (r := o + 4) fl_RX1_47 rfl (Or.inl (gx_isl ho)) (gx_r4 ho) dX1_learnOf_37 ?_
  refine J_iload_n rfl dX1_learnOf_40 ?_
  refine J_ialoade (Or.inl (gx_a4 ho)) K.1 (Eq.trans (gi_no (by omega)) (Eq.trans (gi_no (by omega)) (gi_no (by omega)))) dX1_learnOf_41 ?_
  replace K := K.2
  refine J_iastore (Or.inl rfl) (by decide) dX1_learnOf_42 ?_
  replace K := K _ rfl
  refine J_aload_n rfl dX1_learnOf_43 ?_
  refine J_getS (r := 39) fl_RX1_9 rfl (Or.inl rfl) rfl dX1_learnOf_44 ?_
  refine J_iconst (by decide) dX1_learnOf_47 ?_
  refine J_iload_n rfl dX1_learnOf_48 ?_
  refine J_iastore (Or.inl rfl) (by decide) dX1_learnOf_49 ?_
  replace K := K _ rfl
  refine J_aload_n rfl dX1_learnOf_50 ?_
  refine J_getS (r := 39) fl_RX1_9 rfl (Or.inl rfl) rfl dX1_learnOf_51 ?_
  refine J_iconst (by decide) dX1_learnOf_54 ?_
  refine J_aload_n rfl dX1_learnOf_55 ?_
  refine J_iload_n rfl dX1_learnOf_56 ?_
  refine J_b0 (J_callV (b1 := 0) (ci := 0) (vs := [vI x3]) (rest := [vI 5, vR (some 39)]) (Or.inr rfl) ml_RX1_50 rfl (by decide) rfl rfl (Or.inl (gx_isl ho)) (Nat.le_of_ble_eq_true rfl) rfl dX1_learnOf_57 (c_X0_isHouse ho  ?_))
  show J _ _ _ _ _ _ _ [vI _, vI 5, vR (some 39)] _
  refine J_if_eq (tgt := 72) dX1_learnOf_60 (by decide) (fun c => ?_) (fun c => ?_)
  · replace K := K.2 (b2i_0.mp c)
    refine J_iconst (by decide) dX1_learnOf_72 ?_
    refine J_iastore (Or.inl rfl) (by decide) dX1_learnOf_73 ?_
    replace K := K _ rfl
    refine J_aload_n rfl dX1_learnOf_74 ?_
    refine J_getS (r := 39) fl_RX1_9 rfl (Or.inl rfl) rfl dX1_learnOf_75 ?_
    refine J_bipush (by decide) (by decide) dX1_learnOf_78 ?_
    refine J_iload rfl dX1_learnOf_80 ?_
    refine J_iastore (Or.inl rfl) (by decide) dX1_learnOf_82 ?_
    replace K := K _ rfl
    refine J_aload_n rfl dX1_learnOf_83 ?_
    refine J_getS (r := 39) fl_RX1_9 rfl (Or.inl rfl) rfl dX1_learnOf_84 ?_
    refine J_bipush (by decide) (by decide) dX1_learnOf_87 ?_
    refine J_iload rfl dX1_learnOf_89 ?_
    refine J_iastore (Or.inl rfl) (by decide) dX1_learnOf_91 ?_
    replace K := K _ rfl
    refine J_aload_n rfl dX1_learnOf_92 ?_
    refine J_getS (r := 39) fl_RX1_9 rfl (Or.inl rfl) rfl dX1_learnOf_93 ?_
    refine J_bipush (by decide) (by decide) dX1_learnOf_96 ?_
    refine J_aload_n rfl dX1_learnOf_98 ?_
    refine J_getS (r := o + 8) fl_RX1_38 rfl (Or.inl (gx_isl ho)) (gx_r8 ho) dX1_learnOf_99 ?_
    refine J_iload_n rfl dX1_learnOf_102 ?_
    refine J_ialoade (Or.inl (gx_a8 ho)) K.1 (Eq.trans (gi_no (by omega)) (Eq.trans (gi_no (by omega)) (Eq.trans (gi_no (by omega)) (Eq.trans (gi_no (by omega)) (Eq.trans (gi_no (by omega)) (Eq.trans (gi_no (by omega)) (Eq.trans (gi_no (by omega)) (gi_no (by omega))))))))) dX1_learnOf_103 ?_
    replace K := K.2
    refine J_iastore (Or.inl rfl) (by decide) dX1_learnOf_104 ?_
    replace K := K _ rfl
    refine J_aload_n rfl dX1_learnOf_105 ?_
    refine J_getS (r := 39) fl_RX1_9 rfl (Or.inl rfl) rfl dX1_learnOf_106 ?_
    refine J_bipush (by decide) (by decide) dX1_learnOf_109 ?_
    refine J_aload_n rfl dX1_learnOf_111 ?_
    refine J_getIe fl_RX1_18 rfl (Or.inl (gx_isl ho)) (Eq.trans (gi_no (by omega)) (Eq.trans (gi_no (by omega)) (Eq.trans (gi_no (by omega)) (Eq.trans (gi_no (by omega)) (Eq.trans (gi_no (by omega)) (Eq.trans (gi_no (by omega)) (Eq.trans (gi_no (by omega)) (Eq.trans (gi_no (by omega)) (gi_no (by omega)))))))))) dX1_learnOf_112 ?_
    refine J_iastore (Or.inl rfl) (by decide) dX1_learnOf_115 ?_
    replace K := K _ rfl
    refine J_aload_n rfl dX1_learnOf_116 ?_
    refine J_getS (r := 39) fl_RX1_9 rfl (Or.inl rfl) rfl dX1_learnOf_117 ?_
    refine J_bipush (by decide) (by decide) dX1_learnOf_120 ?_
    refine J_aload_n rfl dX1_learnOf_122 ?_
    refine J_getIe fl_RX1_56 rfl (Or.inl (gx_isl ho)) (Eq.trans (gi_no (by omega)) (Eq.trans (gi_no (by omega)) (Eq.trans (gi_no (by omega)) (Eq.trans (gi_no (by omega)) (Eq.trans (gi_no (by omega)) (Eq.trans (gi_no (by omega)) (Eq.trans (gi_no (by omega)) (Eq.trans (gi_no (by omega)) (Eq.trans (gi_no (by omega)) (gi_no (by omega))))))))))) dX1_learnOf_123 ?_
    refine J_iastore (Or.inl rfl) (by decide) dX1_learnOf_126 ?_
    replace K := K _ rfl
    exact J_return rfl dX1_learnOf_127 K
  · replace K := K.1 (b2i_n0.mp c)
    refine J_aload_n rfl dX1_learnOf_63 ?_
    refine J_getS (r := o + 1) fl_RX1_53 rfl (Or.inl (gx_isl ho)) (gx_r1 ho) dX1_learnOf_64 ?_
    refine J_iload_n rfl dX1_learnOf_67 ?_
    refine J_ialoade (Or.inl (gx_a1 ho)) K.1 (Eq.trans (gi_no (by omega)) (Eq.trans (gi_no (by omega)) (Eq.trans (gi_no (by omega)) (Eq.trans (gi_no (by omega)) (gi_no (by omega)))))) dX1_learnOf_68 ?_
    replace K := K.2
    refine J_goto (tgt := 73) dX1_learnOf_69 (by decide) ?_
    refine J_iastore (Or.inl rfl) (by decide) dX1_learnOf_73 ?_
    replace K := K _ rfl
    refine J_aload_n rfl dX1_learnOf_74 ?_
    refine J_getS (r := 39) fl_RX1_9 rfl (Or.inl rfl) rfl dX1_learnOf_75 ?_
    refine J_bipush (by decide) (by decide) dX1_learnOf_78 ?_
    refine J_iload rfl dX1_learnOf_80 ?_
    refine J_iastore (Or.inl rfl) (by decide) dX1_learnOf_82 ?_
    replace K := K _ rfl
    refine J_aload_n rfl dX1_learnOf_83 ?_
    refine J_getS (r := 39) fl_RX1_9 rfl (Or.inl rfl) rfl dX1_learnOf_84 ?_
    refine J_bipush (by decide) (by decide) dX1_learnOf_87 ?_
    refine J_iload rfl dX1_learnOf_89 ?_
    refine J_iastore (Or.inl rfl) (by decide) dX1_learnOf_91 ?_
    replace K := K _ rfl
    refine J_aload_n rfl dX1_learnOf_92 ?_
    refine J_getS (r := 39) fl_RX1_9 rfl (Or.inl rfl) rfl dX1_learnOf_93 ?_
    refine J_bipush (by decide) (by decide) dX1_learnOf_96 ?_
    refine J_aload_n rfl dX1_learnOf_98 ?_
    refine J_getS (r := o + 8) fl_RX1_38 rfl (Or.inl (gx_isl ho)) (gx_r8 ho) dX1_learnOf_99 ?_
    refine J_iload_n rfl dX1_learnOf_102 ?_
    refine J_ialoade (Or.inl (gx_a8 ho)) K.1 (Eq.trans (gi_no (by omega)) (Eq.trans (gi_no (by omega)) (Eq.trans (gi_no (by omega)) (Eq.trans (gi_no (by omega)) (Eq.trans (gi_no (by omega)) (Eq.trans (gi_no (by omega)) (Eq.trans (gi_no (by omega)) (gi_no (by omega))))))))) dX1_learnOf_103 ?_
    replace K := K.2
    refine J_iastore (Or.inl rfl) (by decide) dX1_learnOf_104 ?_
    replace K := K _ rfl
    refine J_aload_n rfl dX1_learnOf_105 ?_
    refine J_getS (r := 39) fl_RX1_9 rfl (Or.inl rfl) rfl dX1_learnOf_106 ?_
    refine J_bipush (by decide) (by decide) dX1_learnOf_109 ?_
    refine J_aload_n rfl dX1_learnOf_111 ?_
    refine J_getIe fl_RX1_18 rfl (Or.inl (gx_isl ho)) (Eq.trans (gi_no (by omega)) (Eq.trans (gi_no (by omega)) (Eq.trans (gi_no (by omega)) (Eq.trans (gi_no (by omega)) (Eq.trans (gi_no (by omega)) (Eq.trans (gi_no (by omega)) (Eq.trans (gi_no (by omega)) (Eq.trans (gi_no (by omega)) (gi_no (by omega)))))))))) dX1_learnOf_112 ?_
    refine J_iastore (Or.inl rfl) (by decide) dX1_learnOf_115 ?_
    replace K := K _ rfl
    refine J_aload_n rfl dX1_learnOf_116 ?_
    refine J_getS (r := 39) fl_RX1_9 rfl (Or.inl rfl) rfl dX1_learnOf_117 ?_
    refine J_bipush (by decide) (by decide) dX1_learnOf_120 ?_
    refine J_aload_n rfl dX1_learnOf_122 ?_
    refine J_getIe fl_RX1_56 rfl (Or.inl (gx_isl ho)) (Eq.trans (gi_no (by omega)) (Eq.trans (gi_no (by omega)) (Eq.trans (gi_no (by omega)) (Eq.trans (gi_no (by omega)) (Eq.trans (gi_no (by omega)) (Eq.trans (gi_no (by omega)) (Eq.trans (gi_no (by omega)) (Eq.trans (gi_no (by omega)) (Eq.trans (gi_no (by omega)) (gi_no (by omega))))))))))) dX1_learnOf_123 ?_
    refine J_iastore (Or.inl rfl) (by decide) dX1_learnOf_126 ?_
    replace K := K _ rfl
    exact J_return rfl dX1_learnOf_127 K
