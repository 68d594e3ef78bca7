set_option maxRecDepth 20000 in
set_option maxHeartbeats 2000000 in
theorem w_X8_isHouse {d b : Nat} {Q : Option AV → AH → Prop} {h : AH} {x1 : Int}  (K : R64 ((gi h 2 0) - 1) ∧ Q (some (vI (b2i (0 ≤ x1 ∧ x1 ≤ ((gi h 2 0) - 1))))) h) : WM GM (d + 1) b mX8_isHouse [vR (some 0), vI x1] h Q := by
  refine WM_introE (loc' := [some (vR (some 0)), some (vI x1)]) rfl (by decide) (Nat.le_of_ble_eq_true rfl) ?_
  refine J_iload_n rfl dX8_isHouse_0 ?_
  refine J_i2l dX8_isHouse_1 ?_
  refine J_lconst (x := 0) (by decide) (by decide) dX8_isHouse_2 ?_
  refine J_aload_n rfl dX8_isHouse_3 ?_
  refine J_getS (r := 2) fl_RX8_13 rfl (Or.inl rfl) rfl dX8_isHouse_4 ?_
  refine J_iconst (by decide) dX8_isHouse_7 ?_
  refine J_iaload (Or.inl rfl) (by decide) dX8_isHouse_8 ?_
  refine J_i2l dX8_isHouse_9 ?_
  refine J_lconst (x := 1) (by decide) (by decide) dX8_isHouse_10 ?_
  refine J_lsub K.1 dX8_isHouse_11 ?_
  replace K := K.2
  refine J_b0 (J_callS (b1 := 0) (vs := [vL x1, vL 0, vL ((gi h 2 0) - 1)]) (rest := []) (Or.inl rfl) ml_RX8_181 rfl (by decide) (Nat.le_of_ble_eq_true rfl) rfl dX8_isHouse_12 (c_X8_in   ?_))
  show J _ _ _ _ _ _ _ [vI (b2i (0 ≤ x1 ∧ x1 ≤ ((gi h 2 0) - 1)))] _
  exact J_zreturn ⟨rfl, b2i_01 _⟩ dX8_isHouse_15 K
set_option maxRecDepth 20000 in
set_option maxHeartbeats 2000000 in
theorem w_X8_isDoor {d b : Nat} {Q : Option AV → AH → Prop} {h : AH} {x1 : Int}  (K : R64 ((gi h 2 1) - 1) ∧ Q (some (vI (b2i (0 ≤ x1 ∧ x1 ≤ ((gi h 2 1) - 1))))) h) : WM GM (d + 1) b mX8_isDoor [vR (some 0), vI x1] h Q := by
  refine WM_introE (loc' := [some (vR (some 0)), some (vI x1)]) rfl (by decide) (Nat.le_of_ble_eq_true rfl) ?_
  refine J_iload_n rfl dX8_isDoor_0 ?_
  refine J_i2l dX8_isDoor_1 ?_
  refine J_lconst (x := 0) (by decide) (by decide) dX8_isDoor_2 ?_
  refine J_aload_n rfl dX8_isDoor_3 ?_
  refine J_getS (r := 2) fl_RX8_13 rfl (Or.inl rfl) rfl dX8_isDoor_4 ?_
  refine J_iconst (by decide) dX8_isDoor_7 ?_
  refine J_iaload (Or.inl rfl) (by decide) dX8_isDoor_8 ?_
  refine J_i2l dX8_isDoor_9 ?_
  refine J_lconst (x := 1) (by decide) (by decide) dX8_isDoor_10 ?_
  refine J_lsub K.1 dX8_isDoor_11 ?_
  replace K := K.2
  refine J_b0 (J_callS (b1 := 0) (vs := [vL x1, vL 0, vL ((gi h 2 1) - 1)]) (rest := []) (Or.inl rfl) ml_RX8_181 rfl (by decide) (Nat.le_of_ble_eq_true rfl) rfl dX8_isDoor_12 (c_X8_in   ?_))
  show J _ _ _ _ _ _ _ [vI (b2i (0 ≤ x1 ∧ x1 ≤ ((gi h 2 1) - 1)))] _
  exact J_zreturn ⟨rfl, b2i_01 _⟩ dX8_isDoor_15 K
set_option maxRecDepth 20000 in
set_option maxHeartbeats 2000000 in
theorem w_X8_isCell {d b : Nat} {Q : Option AV → AH → Prop} {h : AH} {x1 : Int}  (K : Q (some (vI (b2i (0 ≤ x1 ∧ x1 ≤ 24)))) h) : WM GM (d + 1) b mX8_isCell [vI x1] h Q := by
  refine WM_introE (loc' := [some (vI x1)]) rfl (by decide) (Nat.le_of_ble_eq_true rfl) ?_
  refine J_iload_n rfl dX8_isCell_0 ?_
  refine J_i2l dX8_isCell_1 ?_
  refine J_lconst (x := 0) (by decide) (by decide) dX8_isCell_2 ?_
  refine J_ldc2 (n := 24) (by decide) (by decide) kc_RX8_188 dX8_isCell_3 ?_
  refine J_b0 (J_callS (b1 := 0) (vs := [vL x1, vL 0, vL 24]) (rest := []) (Or.inl rfl) ml_RX8_181 rfl (by decide) (Nat.le_of_ble_eq_true rfl) rfl dX8_isCell_6 (c_X8_in   ?_))
  show J _ _ _ _ _ _ _ [vI (b2i (0 ≤ x1 ∧ x1 ≤ 24))] _
  exact J_zreturn ⟨rfl, b2i_01 _⟩ dX8_isCell_9 K
set_option maxRecDepth 20000 in
set_option maxHeartbeats 2000000 in
theorem w_X8_canBe {d b : Nat} {Q : Option AV → AH → Prop} {h : AH} {x1 : Int} {x2 : Int}  (K : (x1 = 0 → Q (some (vI (b2i (0 ≤ x2 ∧ x2 ≤ 99)))) h) ∧ (¬(x1 = 0) → (x1 = 1 → (0 ≤ x2 ∧ x2 ≤ 4 → Q (some (vI 1)) h) ∧ (¬(0 ≤ x2 ∧ x2 ≤ 4) → Q (some (vI 0)) h)) ∧ (¬(x1 = 1) → Q (some (vI 0)) h))) : WM GM (d + 1) b mX8_canBe [vI x1, vI x2] h Q := by
  refine WM_introE (loc' := [some (vI x1), some (vI x2)]) rfl (by decide) (Nat.le_of_ble_eq_true rfl) ?_
  refine J_iload_n rfl dX8_canBe_0 ?_
  refine J_if_ne (tgt := 16) dX8_canBe_1 (by decide) (fun c => ?_) (fun c => ?_)
  · replace K := K.2 c
    refine J_iload_n rfl dX8_canBe_16 ?_
    refine J_iconst (by decide) dX8_canBe_17 ?_
    refine J_icmp_ne (tgt := 37) dX8_canBe_18 (by decide) (fun c => ?_) (fun c => ?_)
    · replace K := K.2 c
      refine J_iconst (by decide) dX8_canBe_37 ?_
      exact J_zreturn ⟨rfl, by decide⟩ dX8_canBe_38 K
    · replace K := K.1 c
      refine J_iload_n rfl dX8_canBe_21 ?_
      refine J_i2l dX8_canBe_22 ?_
      refine J_lconst (x := 0) (by decide) (by decide) dX8_canBe_23 ?_
      refine J_ldc2 (n := 4) (by decide) (by decide) kc_RX8_215 dX8_canBe_24 ?_
      refine J_b0 (J_callS (b1 := 0) (vs := [vL x2, vL 0, vL 4]) (rest := []) (Or.inl rfl) ml_RX8_181 rfl (by decide) (Nat.le_of_ble_eq_true rfl) rfl dX8_canBe_27 (c_X8_in   ?_))
      show J _ _ _ _ _ _ _ [vI (b2i (0 ≤ x2 ∧ x2 ≤ 4))] _
      refine J_if_eq (tgt := 37) dX8_canBe_30 (by decide) (fun c => ?_) (fun c => ?_)
      · replace K := K.2 (b2i_0.mp c)
        refine J_iconst (by decide) dX8_canBe_37 ?_
        exact J_zreturn ⟨rfl, by decide⟩ dX8_canBe_38 K
      · replace K := K.1 (b2i_n0.mp c)
        refine J_iconst (by decide) dX8_canBe_33 ?_
        refine J_goto (tgt := 38) dX8_canBe_34 (by decide) ?_
        exact J_zreturn ⟨rfl, by decide⟩ dX8_canBe_38 K
  · replace K := K.1 c
    refine J_iload_n rfl dX8_canBe_4 ?_
    refine J_i2l dX8_canBe_5 ?_
    refine J_lconst (x := 0) (by decide) (by decide) dX8_canBe_6 ?_
    refine J_ldc2 (n := 99) (by decide) (by decide) kc_RX8_213 dX8_canBe_7 ?_
    refine J_b0 (J_callS (b1 := 0) (vs := [vL x2, vL 0, vL 99]) (rest := []) (Or.inl rfl) ml_RX8_181 rfl (by decide) (Nat.le_of_ble_eq_true rfl) rfl dX8_canBe_10 (c_X8_in   ?_))
    show J _ _ _ _ _ _ _ [vI (b2i (0 ≤ x2 ∧ x2 ≤ 99))] _
    refine J_goto (tgt := 38) dX8_canBe_13 (by decide) ?_
    exact J_zreturn ⟨rfl, b2i_01 _⟩ dX8_canBe_38 K
set_option maxRecDepth 20000 in
set_option maxHeartbeats 2000000 in
theorem w_X8_settled {d b : Nat} {Q : Option AV → AH → Prop} {h : AH} {x1 : Int}  (K : (0 ≤ x1 → ∀ h1, h1 = si h 0 8 0 → (-7 < x1) ∧ (∀ i : Int, 0 ≤ i → i < 7 → 0 ≤ gi h1 1 i ∧ gi h1 1 i ≤ 1000000) ∧ ∀ h2, h2 = mTell h1 x1 → Q (some (vI x1)) h2) ∧ (¬(0 ≤ x1) → ∀ h3, h3 = si h 0 8 (gi h 0 8) → (-7 < x1) ∧ (∀ i : Int, 0 ≤ i → i < 7 → 0 ≤ gi h3 1 i ∧ gi h3 1 i ≤ 1000000) ∧ ∀ h4, h4 = mTell h3 x1 → Q (some (vI x1)) h4)) : WM GM (d + 1) b mX8_settled [vR (some 0), vI x1] h Q := by
  refine WM_introE (loc' := [some (vR (some 0)), some (vI x1)]) rfl (by decide) (Nat.le_of_ble_eq_true rfl) ?_
  refine J_aload_n rfl dX8_settled_0 ?_
  refine J_iload_n rfl dX8_settled_1 ?_
  refine J_if_ge (tgt := 12) dX8_settled_2 (by decide) (fun c => ?_) (fun c => ?_)
  · replace K := K.1 c
    refine J_iconst (by decide) dX8_settled_12 ?_
    refine J_putI fl_RX8_167 rfl (Or.inl rfl) dX8_settled_13 ?_
    replace K := K _ rfl
    refine J_aload_n rfl dX8_settled_16 ?_
    refine J_iload_n rfl dX8_settled_17 ?_
    refine J_b0 (J_callV (b1 := 0) (ci := 8) (vs := [vI x1]) (rest := []) (Or.inl rfl) ml_RX8_170 rfl (by decide) rfl rfl (Or.inl rfl) (Nat.le_of_ble_eq_true rfl) rfl dX8_settled_18 (c_X8_tell  K.1 K.2.1 ?_))
    replace K := K.2.2
    replace K := K _ rfl
    show J _ _ _ _ _ _ _ [vI x1] _
    exact J_ireturn rfl dX8_settled_21 K
  · replace K := K.2 c
    refine J_aload_n rfl dX8_settled_5 ?_
    refine J_getI fl_RX8_167 rfl (Or.inl rfl) dX8_settled_6 ?_
    refine J_goto (tgt := 13) dX8_settled_9 (by decide) ?_
    refine J_putI fl_RX8_167 rfl (Or.inl rfl) dX8_settled_13 ?_
    replace K := K _ rfl
    refine J_aload_n rfl dX8_settled_16 ?_
    refine J_iload_n rfl dX8_settled_17 ?_
    refine J_b0 (J_callV (b1 := 0) (ci := 8) (vs := [vI x1]) (rest := []) (Or.inl rfl) ml_RX8_170 rfl (by decide) rfl rfl (Or.inl rfl) (Nat.le_of_ble_eq_true rfl) rfl dX8_settled_18 (c_X8_tell  K.1 K.2.1 ?_))
    replace K := K.2.2
    replace K := K _ rfl
    show J _ _ _ _ _ _ _ [vI x1] _
    exact J_ireturn rfl dX8_settled_21 K
set_option maxRecDepth 20000 in
set_option maxHeartbeats 2000000 in
theorem w_X7_isNotLost {d b : Nat} {Q : Option AV → AH → Prop} {h : AH} {x1 : Int} {x2 : Int}  (K : (x1 < x2 → Q (some (vI 0)) h) ∧ (¬(x1 < x2) → R32 (x1 - x2) ∧ ((0 : Int) ≤ (x1 - x2) ∧ (x1 - x2) < gi h 1 2 → R32 (x1 - x2) ∧ ((0 : Int) ≤ (x1 - x2) ∧ ((x1 - x2) : Int) < 8) ∧ (gi h 7 (x1 - x2) = -1 ∧ gi h 8 (x1 - x2) = -1 → Q (some (vI 0)) h) ∧ (¬(gi h 7 (x1 - x2) = -1 ∧ gi h 8 (x1 - x2) = -1) → Q (some (vI 1)) h)) ∧ (¬((0 : Int) ≤ (x1 - x2) ∧ (x1 - x2) < gi h 1 2) → Q (some (vI 0)) h))) : WM GX (d + 1) b mX7_isNotLost [vR (some 0), vI x1, vI x2] h Q := by
  refine WM_introE (loc' := [some (vR (some 0)), some (vI x1), some (vI x2)]) rfl (by decide) (Nat.le_of_ble_eq_true rfl) ?_
  refine J_iload_n rfl dX7_isNotLost_0 ?_
  refine J_iload_n rfl dX7_isNotLost_1 ?_
  refine J_icmp_lt (tgt := 35) dX7_isNotLost_2 (by decide) (fun c => ?_) (fun c => ?_)
  · replace K := K.1 c
    refine J_iconst (by decide) dX7_isNotLost_35 ?_
    exact J_zreturn ⟨rfl, by decide⟩ dX7_isNotLost_36 K
  · replace K := K.2 c
    refine J_aload_n rfl dX7_isNotLost_5 ?_
    refine J_getS (r := 1) fl_RX7_10 rfl (Or.inl rfl) rfl dX7_isNotLost_6 ?_
    refine J_iload_n rfl dX7_isNotLost_9 ?_
    refine J_iload_n rfl dX7_isNotLost_10 ?_
    refine J_isub K.1 dX7_isNotLost_11 ?_
    replace K := K.2
    refine J_b0 (J_callV (b1 := 0) (ci := 0) (vs := [vI (x1 - x2)]) (rest := []) (Or.inr rfl) ml_RX7_138 rfl (by decide) rfl rfl (Or.inl rfl) (Nat.le_of_ble_eq_true rfl) rfl dX7_isNotLost_12 (c_X0_isDoor (by decide)  ?_))
    show J _ _ _ _ _ _ _ [vI (b2i ((0 : Int) ≤ (x1 - x2) ∧ (x1 - x2) < gi h 1 2))] _
    refine J_if_eq (tgt := 35) dX7_isNotLost_15 (by decide) (fun c => ?_) (fun c => ?_)
    · replace K := K.2 (b2i_0.mp c)
      refine J_iconst (by decide) dX7_isNotLost_35 ?_
      exact J_zreturn ⟨rfl, by decide⟩ dX7_isNotLost_36 K
    · replace K := K.1 (b2i_n0.mp c)
      refine J_aload_n rfl dX7_isNotLost_18 ?_
      refine J_getS (r := 1) fl_RX7_10 rfl (Or.inl rfl) rfl dX7_isNotLost_19 ?_
      refine J_iload_n rfl dX7_isNotLost_22 ?_
      refine J_iload_n rfl dX7_isNotLost_23 ?_
      refine J_isub K.1 dX7_isNotLost_24 ?_
      replace K := K.2
      refine J_b0 (J_callV (b1 := 0) (ci := 0) (vs := [vI (x1 - x2)]) (rest := []) (Or.inr rfl) ml_RX7_141 rfl (by decide) rfl rfl (Or.inl rfl) (Nat.le_of_ble_eq_true rfl) rfl dX7_isNotLost_25 (c_X0_isLost (by decide) K.1 ?_))
      replace K := K.2
      show J _ _ _ _ _ _ _ [vI (b2i (gi h 7 (x1 - x2) = -1 ∧ gi h 8 (x1 - x2) = -1))] _
      refine J_if_ne (tgt := 35) dX7_isNotLost_28 (by decide) (fun c => ?_) (fun c => ?_)
      · replace K := K.1 (b2i_n0.mp c)
        refine J_iconst (by decide) dX7_isNotLost_35 ?_
        exact J_zreturn ⟨rfl, by decide⟩ dX7_isNotLost_36 K
      · replace K := K.2 (b2i_0.mp c)
        refine J_iconst (by decide) dX7_isNotLost_31 ?_
        refine J_goto (tgt := 36) dX7_isNotLost_32 (by decide) ?_
        exact J_zreturn ⟨rfl, by decide⟩ dX7_isNotLost_36 K
def Lp_X0_open_4 (d b : Nat) (Q : Option AV → AH → Prop) (o : Nat) (y1 : Int) (y2 : Int) (h : AH) : Prop := J GX (d + 1) b mX0_open Q 4 [some (vR (some o)), some (vI y1), some (vI y2)] [] h
set_option maxRecDepth 20000 in
set_option maxHeartbeats 2000000 in
theorem l_X0_open_4 {d b : Nat} {Q : Option AV → AH → Prop} {h : AH} {o : Nat} {y1 : Int} {y2 : Int} (ho : isl o) (K : (gi h o 0 ≤ y2 → Q (some (vI y1)) h) ∧ (¬(gi h o 0 ≤ y2) → (0 ≤ gi h o 2 ∧ gi h o 2 ≤ 8) ∧ (dIn (gi h (o + 6)) y2 (gi h o 2).toNat 0 = (-1) → R32 (y1 + 1) ∧ R32 (y2 + 1) ∧ Lp_X0_open_4 d b Q o (y1 + 1) (y2 + 1) h) ∧ (¬(dIn (gi h (o + 6)) y2 (gi h o 2).toNat 0 = (-1)) → R32 (y2 + 1) ∧ Lp_X0_open_4 d b Q o y1 (y2 + 1) h))) : Lp_X0_open_4 d b Q o y1 y2 h := by
  unfold Lp_X0_open_4
  refine J_iload_n rfl dX0_open_4 ?_
  refine J_aload_n rfl dX0_open_5 ?_
  refine J_getI fl_RX0_9 rfl (Or.inl (gx_isl ho)) dX0_open_6 ?_
  refine J_icmp_ge (tgt := 30) dX0_open_9 (by decide) (fun c => ?_) (fun c => ?_)
  · replace K := K.1 c
    refine J_iload_n rfl dX0_open_30 ?_
    exact J_ireturn rfl dX0_open_31 K
  · replace K := K.2 c
    refine J_aload_n rfl dX0_open_12 ?_
    refine J_iload_n rfl dX0_open_13 ?_
    refine J_b0 (J_callV (b1 := 0) (ci := 0) (vs := [vI y2]) (rest := []) (Or.inl rfl) ml_RX0_85 rfl (by decide) rfl rfl (Or.inl (gx_isl ho)) (Nat.le_of_ble_eq_true rfl) rfl dX0_open_14 (c_X0_doorIn ho K.1 ?_))
    replace K := K.2
    show J _ _ _ _ _ _ _ [vI (dIn (gi h (o + 6)) y2 (gi h o 2).toNat 0)] _
    refine J_iconst (by decide) dX0_open_17 ?_
    refine J_icmp_ne (tgt := 24) dX0_open_18 (by decide) (fun c => ?_) (fun c => ?_)
    · replace K := K.2 c
      refine J_iinc (loc' := [some (vR (some o)), some (vI y1), some (vI (y2 + 1))]) (by decide) rfl K.1 rfl dX0_open_24 ?_
      replace K := K.2
      refine J_goto (tgt := 4) dX0_open_27 (by decide) ?_
      exact J_forget (loc' := [some (vR (some o)), some (vI y1), some (vI (y2 + 1))]) (And.intro (Or.inr rfl) (And.intro (Or.inr rfl) (And.intro (Or.inr rfl) True.intro))) K
    · replace K := K.1 c
      refine J_iinc (loc' := [some (vR (some o)), some (vI (y1 + 1)), some (vI y2)]) (by decide) rfl K.1 rfl dX0_open_21 ?_
      replace K := K.2
      refine J_iinc (loc' := [some (vR (some o)), some (vI (y1 + 1)), some (vI (y2 + 1))]) (by decide) rfl K.1 rfl dX0_open_24 ?_
      replace K := K.2
      refine J_goto (tgt := 4) dX0_open_27 (by decide) ?_
      exact J_forget (loc' := [some (vR (some o)), some (vI (y1 + 1)), some (vI (y2 + 1))]) (And.intro (Or.inr rfl) (And.intro (Or.inr rfl) (And.intro (Or.inr rfl) True.intro))) K
set_option maxRecDepth 20000 in
set_option maxHeartbeats 2000000 in
theorem w_X0_open {d b : Nat} {Q : Option AV → AH → Prop} {h : AH} {o : Nat} (ho : isl o) (K : Lp_X0_open_4 d b Q o 0 0 h) : WM GX (d + 1) b mX0_open [vR (some o)] h Q := by
  refine WM_introE (loc' := [some (vR (some o)), none, none]) rfl (by decide) (Nat.le_of_ble_eq_true rfl) ?_
  refine J_iconst (by decide) dX0_open_0 ?_
  refine J_istore_n (loc' := [some (vR (some o)), some (vI 0), none]) (by decide) rfl dX0_open_1 ?_
  refine J_iconst (by decide) dX0_open_2 ?_
  refine J_istore_n (loc' := [some (vR (some o)), some (vI 0), some (vI 0)]) (by decide) rfl dX0_open_3 ?_
  exact J_forget (loc' := [some (vR (some o)), some (vI 0), some (vI 0)]) (And.intro (Or.inr rfl) (And.intro (Or.inr rfl) (And.intro (Or.inr rfl) True.intro))) K
def Lp_X0_lost_4 (d b : Nat) (Q : Option AV → AH → Prop) (o : Nat) (y1 : Int) (y2 : Int) (h : AH) : Prop := J GX (d + 1) b mX0_lost Q 4 [some (vR (some o)), some (vI y1), some (vI y2)] [] h
set_option maxRecDepth 20000 in
set_option maxHeartbeats 2000000 in
theorem l_X0_lost_4 {d b : Nat} {Q : Option AV → AH → Prop} {h : AH} {o : Nat} {y1 : Int} {y2 : Int} (ho : isl o) (K : (gi h o 2 ≤ y2 → Q (some (vI y1)) h) ∧ (¬(gi h o 2 ≤ y2) → ((0 : Int) ≤ y2 ∧ (y2 : Int) < 8) ∧ (gi h (o + 6) y2 = -1 ∧ gi h (o + 7) y2 = -1 → R32 (y1 + 1) ∧ R32 (y2 + 1) ∧ Lp_X0_lost_4 d b Q o (y1 + 1) (y2 + 1) h) ∧ (¬(gi h (o + 6) y2 = -1 ∧ gi h (o + 7) y2 = -1) → R32 (y2 + 1) ∧ Lp_X0_lost_4 d b Q o y1 (y2 + 1) h))) : Lp_X0_lost_4 d b Q o y1 y2 h := by
  unfold Lp_X0_lost_4
  refine J_iload_n rfl dX0_lost_4 ?_
  refine J_aload_n rfl dX0_lost_5 ?_
  refine J_getI fl_RX0_19 rfl (Or.inl (gx_isl ho)) dX0_lost_6 ?_
  refine J_icmp_ge (tgt := 29) dX0_lost_9 (by decide) (fun c => ?_) (fun c => ?_)
  · replace K := K.1 c
    refine J_iload_n rfl dX0_lost_29 ?_
    exact J_ireturn rfl dX0_lost_30 K
  · replace K := K.2 c
    refine J_aload_n rfl dX0_lost_12 ?_
    refine J_iload_n rfl dX0_lost_13 ?_
    refine J_b0 (J_callV (b1 := 0) (ci := 0) (vs := [vI y2]) (rest := []) (Or.inl rfl) ml_RX0_89 rfl (by decide) rfl rfl (Or.inl (gx_isl ho)) (Nat.le_of_ble_eq_true rfl) rfl dX0_lost_14 (c_X0_isLost ho K.1 ?_))
    replace K := K.2
    show J _ _ _ _ _ _ _ [vI (b2i (gi h (o + 6) y2 = -1 ∧ gi h (o + 7) y2 = -1))] _
    refine J_if_eq (tgt := 23) dX0_lost_17 (by decide) (fun c => ?_) (fun c => ?_)
    · replace K := K.2 (b2i_0.mp c)
      refine J_iinc (loc' := [some (vR (some o)), some (vI y1), some (vI (y2 + 1))]) (by decide) rfl K.1 rfl dX0_lost_23 ?_
      replace K := K.2
      refine J_goto (tgt := 4) dX0_lost_26 (by decide) ?_
      exact J_forget (loc' := [some (vR (some o)), some (vI y1), some (vI (y2 + 1))]) (And.intro (Or.inr rfl) (And.intro (Or.inr rfl) (And.intro (Or.inr rfl) True.intro))) K
    · replace K := K.1 (b2i_n0.mp c)
      refine J_iinc (loc' := [some (vR (some o)), some (vI (y1 + 1)), some (vI y2)]) (by decide) rfl K.1 rfl dX0_lost_20 ?_
      replace K := K.2
      refine J_iinc (loc' := [some (vR (some o)), some (vI (y1 + 1)), some (vI (y2 + 1))]) (by decide) rfl K.1 rfl dX0_lost_23 ?_
      replace K := K.2
      refine J_goto (tgt := 4) dX0_lost_26 (by decide) ?_
      exact J_forget (loc' := [some (vR (some o)), some (vI (y1 + 1)), some (vI (y2 + 1))]) (And.intro (Or.inr rfl) (And.intro (Or.inr rfl) (And.intro (Or.inr rfl) True.intro))) K
set_option maxRecDepth 20000 in
set_option maxHeartbeats 2000000 in
theorem w_X0_lost {d b : Nat} {Q : Option AV → AH → Prop} {h : AH} {o : Nat} (ho : isl o) (K : Lp_X0_lost_4 d b Q o 0 0 h) : WM GX (d + 1) b mX0_lost [vR (some o)] h Q := by
  refine WM_introE (loc' := [some (vR (some o)), none, none]) rfl (by decide) (Nat.le_of_ble_eq_true rfl) ?_
  refine J_iconst (by decide) dX0_lost_0 ?_
  refine J_istore_n (loc' := [some (vR (some o)), some (vI 0), none]) (by decide) rfl dX0_lost_1 ?_
  refine J_iconst (by decide) dX0_lost_2 ?_
  refine J_istore_n (loc' := [some (vR (some o)), some (vI 0), some (vI 0)]) (by decide) rfl dX0_lost_3 ?_
  exact J_forget (loc' := [some (vR (some o)), some (vI 0), some (vI 0)]) (And.intro (Or.inr rfl) (And.intro (Or.inr rfl) (And.intro (Or.inr rfl) True.intro))) K
def Lp_X8_openHouses_4 (d b : Nat) (Q : Option AV → AH → Prop)  (y1 : Int) (y2 : Int) (h : AH) : Prop := J GM (d + 1) b mX8_openHouses Q 4 [some (vR (some 0)), some (vI y1), some (vI y2)] [] h
set_option maxRecDepth 20000 in
set_option maxHeartbeats 2000000 in
theorem l_X8_openHouses_4 {d b : Nat} {Q : Option AV → AH → Prop} {h : AH}  {y1 : Int} {y2 : Int}  (K : (gi h 2 0 ≤ y2 → Q (some (vI y1)) h) ∧ (¬(gi h 2 0 ≤ y2) → (InvR (gi h 2)) ∧ ((0 : Int) ≤ y2) ∧ (dOf (gi h 2) y2 = (-1) → R32 (y1 + 1) ∧ R32 (y2 + 1) ∧ Lp_X8_openHouses_4 d b Q (y1 + 1) (y2 + 1) h) ∧ (¬(dOf (gi h 2) y2 = (-1)) → R32 (y1 + 0) ∧ R32 (y2 + 1) ∧ Lp_X8_openHouses_4 d b Q (y1 + 0) (y2 + 1) h))) : Lp_X8_openHouses_4 d b Q y1 y2 h := by
  unfold Lp_X8_openHouses_4
  refine J_iload_n rfl dX8_openHouses_4 ?_
  refine J_aload_n rfl dX8_openHouses_5 ?_
  refine J_getS (r := 2) fl_RX8_13 rfl (Or.inl rfl) rfl dX8_openHouses_6 ?_
  refine J_iconst (by decide) dX8_openHouses_9 ?_
  refine J_iaload (Or.inl rfl) (by decide) dX8_openHouses_10 ?_
  refine J_icmp_ge (tgt := 37) dX8_openHouses_11 (by decide) (fun c => ?_) (fun c => ?_)
  · replace K := K.1 c
    refine J_iload_n rfl dX8_openHouses_37 ?_
    exact J_ireturn rfl dX8_openHouses_38 K
  · replace K := K.2 c
    refine J_iload_n rfl dX8_openHouses_14 ?_
    refine J_aload_n rfl dX8_openHouses_15 ?_
    refine J_iload_n rfl dX8_openHouses_16 ?_
    refine J_b0 (J_callV (b1 := 0) (ci := 8) (vs := [vI y2]) (rest := [vI y1]) (Or.inl rfl) ml_RX8_200 rfl (by decide) rfl rfl (Or.inl rfl) (Nat.le_of_ble_eq_true rfl) rfl dX8_openHouses_17 (c_X8_doorOf  K.1 K.2.1 ?_))
    replace K := K.2.2
    show J _ _ _ _ _ _ _ [vI (dOf (gi h 2) y2), vI y1] _
    refine J_iconst (by decide) dX8_openHouses_20 ?_
    refine J_icmp_ne (tgt := 28) dX8_openHouses_21 (by decide) (fun c => ?_) (fun c => ?_)
    · replace K := K.2 c
      refine J_iconst (by decide) dX8_openHouses_28 ?_
      refine J_iadd K.1 dX8_openHouses_29 ?_
      replace K := K.2
      refine J_istore_n (loc' := [some (vR (some 0)), some (vI (y1 + 0)), some (vI y2)]) (by decide) rfl dX8_openHouses_30 ?_
      refine J_iinc (loc' := [some (vR (some 0)), some (vI (y1 + 0)), some (vI (y2 + 1))]) (by decide) rfl K.1 rfl dX8_openHouses_31 ?_
      replace K := K.2
      refine J_goto (tgt := 4) dX8_openHouses_34 (by decide) ?_
      exact J_forget (loc' := [some (vR (some 0)), some (vI (y1 + 0)), some (vI (y2 + 1))]) (And.intro (Or.inr rfl) (And.intro (Or.inr rfl) (And.intro (Or.inr rfl) True.intro))) K
    · replace K := K.1 c
      refine J_iconst (by decide) dX8_openHouses_24 ?_
      refine J_goto (tgt := 29) dX8_openHouses_25 (by decide) ?_
      refine J_iadd K.1 dX8_openHouses_29 ?_
      replace K := K.2
      refine J_istore_n (loc' := [some (vR (some 0)), some (vI (y1 + 1)), some (vI y2)]) (by decide) rfl dX8_openHouses_30 ?_
      refine J_iinc (loc' := [some (vR (some 0)), some (vI (y1 + 1)), some (vI (y2 + 1))]) (by decide) rfl K.1 rfl dX8_openHouses_31 ?_
      replace K := K.2
      refine J_goto (tgt := 4) dX8_openHouses_34 (by decide) ?_
      exact J_forget (loc' := [some (vR (some 0)), some (vI (y1 + 1)), some (vI (y2 + 1))]) (And.intro (Or.inr rfl) (And.intro (Or.inr rfl) (And.intro (Or.inr rfl) True.intro))) K
set_option maxRecDepth 20000 in
set_option maxHeartbeats 2000000 in
theorem w_X8_openHouses {d b : Nat} {Q : Option AV → AH → Prop} {h : AH}   (K : Lp_X8_openHouses_4 d b Q 0 0 h) : WM GM (d + 1) b mX8_openHouses [vR (some 0)] h Q := by
  refine WM_introE (loc' := [some (vR (some 0)), none, none]) rfl (by decide) (Nat.le_of_ble_eq_true rfl) ?_
  refine J_iconst (by decide) dX8_openHouses_0 ?_
  refine J_istore_n (loc' := [some (vR (some 0)), some (vI 0), none]) (by decide) rfl dX8_openHouses_1 ?_
  refine J_iconst (by decide) dX8_openHouses_2 ?_
  refine J_istore_n (loc' := [some (vR (some 0)), some (vI 0), some (vI 0)]) (by decide) rfl dX8_openHouses_3 ?_
  exact J_forget (loc' := [some (vR (some 0)), some (vI 0), some (vI 0)]) (And.intro (Or.inr rfl) (And.intro (Or.inr rfl) (And.intro (Or.inr rfl) True.intro))) K
