set_option maxRecDepth 20000 in
set_option maxHeartbeats 2000000 in
theorem w_J6_bitCount_0f7a4 {d b : Nat} {Q : Option AV → AH → Prop} {h : AH} {G : GT} {x1 : Int}  (K : R32 (x1 - (zand (zushr x1 1) 1431655765)) ∧ R32 ((zand (x1 - (zand (zushr x1 1) 1431655765)) 858993459) + (zand (zushr (x1 - (zand (zushr x1 1) 1431655765)) 2) 858993459)) ∧ R32 (((zand (x1 - (zand (zushr x1 1) 1431655765)) 858993459) + (zand (zushr (x1 - (zand (zushr x1 1) 1431655765)) 2) 858993459)) + (zushr ((zand (x1 - (zand (zushr x1 1) 1431655765)) 858993459) + (zand (zushr (x1 - (zand (zushr x1 1) 1431655765)) 2) 858993459)) 4)) ∧ R32 ((zand (((zand (x1 - (zand (zushr x1 1) 1431655765)) 858993459) + (zand (zushr (x1 - (zand (zushr x1 1) 1431655765)) 2) 858993459)) + (zushr ((zand (x1 - (zand (zushr x1 1) 1431655765)) 858993459) + (zand (zushr (x1 - (zand (zushr x1 1) 1431655765)) 2) 858993459)) 4)) 252645135) + (zushr (zand (((zand (x1 - (zand (zushr x1 1) 1431655765)) 858993459) + (zand (zushr (x1 - (zand (zushr x1 1) 1431655765)) 2) 858993459)) + (zushr ((zand (x1 - (zand (zushr x1 1) 1431655765)) 858993459) + (zand (zushr (x1 - (zand (zushr x1 1) 1431655765)) 2) 858993459)) 4)) 252645135) 8)) ∧ R32 (((zand (((zand (x1 - (zand (zushr x1 1) 1431655765)) 858993459) + (zand (zushr (x1 - (zand (zushr x1 1) 1431655765)) 2) 858993459)) + (zushr ((zand (x1 - (zand (zushr x1 1) 1431655765)) 858993459) + (zand (zushr (x1 - (zand (zushr x1 1) 1431655765)) 2) 858993459)) 4)) 252645135) + (zushr (zand (((zand (x1 - (zand (zushr x1 1) 1431655765)) 858993459) + (zand (zushr (x1 - (zand (zushr x1 1) 1431655765)) 2) 858993459)) + (zushr ((zand (x1 - (zand (zushr x1 1) 1431655765)) 858993459) + (zand (zushr (x1 - (zand (zushr x1 1) 1431655765)) 2) 858993459)) 4)) 252645135) 8)) + (zushr ((zand (((zand (x1 - (zand (zushr x1 1) 1431655765)) 858993459) + (zand (zushr (x1 - (zand (zushr x1 1) 1431655765)) 2) 858993459)) + (zushr ((zand (x1 - (zand (zushr x1 1) 1431655765)) 858993459) + (zand (zushr (x1 - (zand (zushr x1 1) 1431655765)) 2) 858993459)) 4)) 252645135) + (zushr (zand (((zand (x1 - (zand (zushr x1 1) 1431655765)) 858993459) + (zand (zushr (x1 - (zand (zushr x1 1) 1431655765)) 2) 858993459)) + (zushr ((zand (x1 - (zand (zushr x1 1) 1431655765)) 858993459) + (zand (zushr (x1 - (zand (zushr x1 1) 1431655765)) 2) 858993459)) 4)) 252645135) 8)) 16)) ∧ Q (some (vI (zand (((zand (((zand (x1 - (zand (zushr x1 1) 1431655765)) 858993459) + (zand (zushr (x1 - (zand (zushr x1 1) 1431655765)) 2) 858993459)) + (zushr ((zand (x1 - (zand (zushr x1 1) 1431655765)) 858993459) + (zand (zushr (x1 - (zand (zushr x1 1) 1431655765)) 2) 858993459)) 4)) 252645135) + (zushr (zand (((zand (x1 - (zand (zushr x1 1) 1431655765)) 858993459) + (zand (zushr (x1 - (zand (zushr x1 1) 1431655765)) 2) 858993459)) + (zushr ((zand (x1 - (zand (zushr x1 1) 1431655765)) 858993459) + (zand (zushr (x1 - (zand (zushr x1 1) 1431655765)) 2) 858993459)) 4)) 252645135) 8)) + (zushr ((zand (((zand (x1 - (zand (zushr x1 1) 1431655765)) 858993459) + (zand (zushr (x1 - (zand (zushr x1 1) 1431655765)) 2) 858993459)) + (zushr ((zand (x1 - (zand (zushr x1 1) 1431655765)) 858993459) + (zand (zushr (x1 - (zand (zushr x1 1) 1431655765)) 2) 858993459)) 4)) 252645135) + (zushr (zand (((zand (x1 - (zand (zushr x1 1) 1431655765)) 858993459) + (zand (zushr (x1 - (zand (zushr x1 1) 1431655765)) 2) 858993459)) + (zushr ((zand (x1 - (zand (zushr x1 1) 1431655765)) 858993459) + (zand (zushr (x1 - (zand (zushr x1 1) 1431655765)) 2) 858993459)) 4)) 252645135) 8)) 16)) 63))) h) : WM G d b mJ6_bitCount_0f7a4 [vI x1] h Q := by
  refine WM_introE (loc' := [some (vI x1)]) rfl (by decide) (Nat.le_of_ble_eq_true rfl) ?_
  refine J_iload_n rfl dJ6_bitCount_0f7a4_0 ?_
  refine J_iload_n rfl dJ6_bitCount_0f7a4_1 ?_
  refine J_iconst (by decide) dJ6_bitCount_0f7a4_2 ?_
  refine J_iushr dJ6_bitCount_0f7a4_3 ?_
  refine J_ldcw (n := 1431655765) (by decide) (by decide) kc_RJ6_265 dJ6_bitCount_0f7a4_4 ?_
  refine J_iand dJ6_bitCount_0f7a4_7 ?_
  refine J_isub K.1 dJ6_bitCount_0f7a4_8 ?_
  replace K := K.2
  refine J_istore_n (loc' := [some (vI (x1 - (zand (zushr x1 1) 1431655765)))]) (by decide) rfl dJ6_bitCount_0f7a4_9 ?_
  refine J_iload_n rfl dJ6_bitCount_0f7a4_10 ?_
  refine J_ldcw (n := 858993459) (by decide) (by decide) kc_RJ6_266 dJ6_bitCount_0f7a4_11 ?_
  refine J_iand dJ6_bitCount_0f7a4_14 ?_
  refine J_iload_n rfl dJ6_bitCount_0f7a4_15 ?_
  refine J_iconst (by decide) dJ6_bitCount_0f7a4_16 ?_
  refine J_iushr dJ6_bitCount_0f7a4_17 ?_
  refine J_ldcw (n := 858993459) (by decide) (by decide) kc_RJ6_266 dJ6_bitCount_0f7a4_18 ?_
  refine J_iand dJ6_bitCount_0f7a4_21 ?_
  refine J_iadd K.1 dJ6_bitCount_0f7a4_22 ?_
  replace K := K.2
  refine J_istore_n (loc' := [some (vI ((zand (x1 - (zand (zushr x1 1) 1431655765)) 858993459) + (zand (zushr (x1 - (zand (zushr x1 1) 1431655765)) 2) 858993459)))]) (by decide) rfl dJ6_bitCount_0f7a4_23 ?_
  refine J_iload_n rfl dJ6_bitCount_0f7a4_24 ?_
  refine J_iload_n rfl dJ6_bitCount_0f7a4_25 ?_
  refine J_iconst (by decide) dJ6_bitCount_0f7a4_26 ?_
  refine J_iushr dJ6_bitCount_0f7a4_27 ?_
  refine J_iadd K.1 dJ6_bitCount_0f7a4_28 ?_
  replace K := K.2
  refine J_ldcw (n := 252645135) (by decide) (by decide) kc_RJ6_267 dJ6_bitCount_0f7a4_29 ?_
  refine J_iand dJ6_bitCount_0f7a4_32 ?_
  refine J_istore_n (loc' := [some (vI (zand (((zand (x1 - (zand (zushr x1 1) 1431655765)) 858993459) + (zand (zushr (x1 - (zand (zushr x1 1) 1431655765)) 2) 858993459)) + (zushr ((zand (x1 - (zand (zushr x1 1) 1431655765)) 858993459) + (zand (zushr (x1 - (zand (zushr x1 1) 1431655765)) 2) 858993459)) 4)) 252645135))]) (by decide) rfl dJ6_bitCount_0f7a4_33 ?_
  refine J_iload_n rfl dJ6_bitCount_0f7a4_34 ?_
  refine J_iload_n rfl dJ6_bitCount_0f7a4_35 ?_
  refine J_bipush (by decide) (by decide) dJ6_bitCount_0f7a4_36 ?_
  refine J_iushr dJ6_bitCount_0f7a4_38 ?_
  refine J_iadd K.1 dJ6_bitCount_0f7a4_39 ?_
  replace K := K.2
  refine J_istore_n (loc' := [some (vI ((zand (((zand (x1 - (zand (zushr x1 1) 1431655765)) 858993459) + (zand (zushr (x1 - (zand (zushr x1 1) 1431655765)) 2) 858993459)) + (zushr ((zand (x1 - (zand (zushr x1 1) 1431655765)) 858993459) + (zand (zushr (x1 - (zand (zushr x1 1) 1431655765)) 2) 858993459)) 4)) 252645135) + (zushr (zand (((zand (x1 - (zand (zushr x1 1) 1431655765)) 858993459) + (zand (zushr (x1 - (zand (zushr x1 1) 1431655765)) 2) 858993459)) + (zushr ((zand (x1 - (zand (zushr x1 1) 1431655765)) 858993459) + (zand (zushr (x1 - (zand (zushr x1 1) 1431655765)) 2) 858993459)) 4)) 252645135) 8)))]) (by decide) rfl dJ6_bitCount_0f7a4_40 ?_
  refine J_iload_n rfl dJ6_bitCount_0f7a4_41 ?_
  refine J_iload_n rfl dJ6_bitCount_0f7a4_42 ?_
  refine J_bipush (by decide) (by decide) dJ6_bitCount_0f7a4_43 ?_
  refine J_iushr dJ6_bitCount_0f7a4_45 ?_
  refine J_iadd K.1 dJ6_bitCount_0f7a4_46 ?_
  replace K := K.2
  refine J_istore_n (loc' := [some (vI (((zand (((zand (x1 - (zand (zushr x1 1) 1431655765)) 858993459) + (zand (zushr (x1 - (zand (zushr x1 1) 1431655765)) 2) 858993459)) + (zushr ((zand (x1 - (zand (zushr x1 1) 1431655765)) 858993459) + (zand (zushr (x1 - (zand (zushr x1 1) 1431655765)) 2) 858993459)) 4)) 252645135) + (zushr (zand (((zand (x1 - (zand (zushr x1 1) 1431655765)) 858993459) + (zand (zushr (x1 - (zand (zushr x1 1) 1431655765)) 2) 858993459)) + (zushr ((zand (x1 - (zand (zushr x1 1) 1431655765)) 858993459) + (zand (zushr (x1 - (zand (zushr x1 1) 1431655765)) 2) 858993459)) 4)) 252645135) 8)) + (zushr ((zand (((zand (x1 - (zand (zushr x1 1) 1431655765)) 858993459) + (zand (zushr (x1 - (zand (zushr x1 1) 1431655765)) 2) 858993459)) + (zushr ((zand (x1 - (zand (zushr x1 1) 1431655765)) 858993459) + (zand (zushr (x1 - (zand (zushr x1 1) 1431655765)) 2) 858993459)) 4)) 252645135) + (zushr (zand (((zand (x1 - (zand (zushr x1 1) 1431655765)) 858993459) + (zand (zushr (x1 - (zand (zushr x1 1) 1431655765)) 2) 858993459)) + (zushr ((zand (x1 - (zand (zushr x1 1) 1431655765)) 858993459) + (zand (zushr (x1 - (zand (zushr x1 1) 1431655765)) 2) 858993459)) 4)) 252645135) 8)) 16)))]) (by decide) rfl dJ6_bitCount_0f7a4_47 ?_
  refine J_iload_n rfl dJ6_bitCount_0f7a4_48 ?_
  refine J_bipush (by decide) (by decide) dJ6_bitCount_0f7a4_49 ?_
  refine J_iand dJ6_bitCount_0f7a4_51 ?_
  exact J_ireturn rfl dJ6_bitCount_0f7a4_52 K
def Lp_J7_fill_53178_5 (G : GT) (d b : Nat) (Q : Option AV → AH → Prop) (a1 : Nat) (na1 : Nat) (y1 : Int) (y2 : Int) (y3 : Int) (h : AH) : Prop := J G d b mJ7_fill_53178 Q 5 [some (vR (some a1)), some (vI y1), some (vI y2), some (vI y3)] [] h
set_option maxRecDepth 20000 in
set_option maxHeartbeats 2000000 in
theorem l_J7_fill_53178_5 {d b : Nat} {Q : Option AV → AH → Prop} {h : AH} {G : GT} {a1 : Nat} {na1 : Nat} {y1 : Int} {y2 : Int} {y3 : Int} (ka1 : Kd G h a1 (.inr (0, na1))) (K : (y3 ≤ y2 → Q none h) ∧ (¬(y3 ≤ y2) → (0 ≤ y2 ∧ y2 < na1) ∧ ∀ h1, h1 = si h a1 y2 y1 → R32 (y2 + 1) ∧ Lp_J7_fill_53178_5 G d b Q a1 na1 y1 (y2 + 1) y3 h1)) : Lp_J7_fill_53178_5 G d b Q a1 na1 y1 y2 y3 h := by
  unfold Lp_J7_fill_53178_5
  refine J_iload_n rfl dJ7_fill_53178_5 ?_
  refine J_iload_n rfl dJ7_fill_53178_6 ?_
  refine J_icmp_ge (tgt := 20) dJ7_fill_53178_7 (by decide) (fun c => ?_) (fun c => ?_)
  · replace K := K.1 c
    exact J_return rfl dJ7_fill_53178_20 K
  · replace K := K.2 c
    refine J_aload_n rfl dJ7_fill_53178_10 ?_
    refine J_iload_n rfl dJ7_fill_53178_11 ?_
    refine J_iload_n rfl dJ7_fill_53178_12 ?_
    refine J_iastore ka1 K.1 dJ7_fill_53178_13 ?_
    replace K := K.2
    replace K := K _ rfl
    refine J_iinc (loc' := [some (vR (some a1)), some (vI y1), some (vI (y2 + 1)), some (vI y3)]) (by decide) rfl K.1 rfl dJ7_fill_53178_14 ?_
    replace K := K.2
    refine J_goto (tgt := 5) dJ7_fill_53178_17 (by decide) ?_
    exact J_forget (loc' := [some (vR (some a1)), some (vI y1), some (vI (y2 + 1)), some (vI y3)]) (And.intro (Or.inr rfl) (And.intro (Or.inr rfl) (And.intro (Or.inr rfl) (And.intro (Or.inr rfl) True.intro)))) K
set_option maxRecDepth 20000 in
set_option maxHeartbeats 2000000 in
theorem w_J7_fill_53178 {d b : Nat} {Q : Option AV → AH → Prop} {h : AH} {G : GT} {a1 na1 : Nat} {x2 : Int} (ka1 : Kd G h a1 (.inr (0, na1))) (K : na1 ≤ 2147483647 ∧ Lp_J7_fill_53178_5 G d b Q a1 na1 x2 0 (na1 : Int) h) : WM G d b mJ7_fill_53178 [vR (some a1), vI x2] h Q := by
  refine WM_introE (loc' := [some (vR (some a1)), some (vI x2), none, none]) rfl (by decide) (Nat.le_of_ble_eq_true rfl) ?_
  refine J_iconst (by decide) dJ7_fill_53178_0 ?_
  refine J_istore_n (loc' := [some (vR (some a1)), some (vI x2), some (vI 0), none]) (by decide) rfl dJ7_fill_53178_1 ?_
  refine J_aload_n rfl dJ7_fill_53178_2 ?_
  refine J_alen (by decide) K.1 ka1 dJ7_fill_53178_3 ?_
  replace K := K.2
  refine J_istore_n (loc' := [some (vR (some a1)), some (vI x2), some (vI 0), some (vI (na1 : Int))]) (by decide) rfl dJ7_fill_53178_4 ?_
  exact J_forget (loc' := [some (vR (some a1)), some (vI x2), some (vI 0), some (vI (na1 : Int))]) (And.intro (Or.inr rfl) (And.intro (Or.inr rfl) (And.intro (Or.inr rfl) (And.intro (Or.inr rfl) True.intro)))) K
set_option maxRecDepth 20000 in
set_option maxHeartbeats 2000000 in
theorem w_X7_isCell {d b : Nat} {Q : Option AV → AH → Prop} {h : AH} {x1 : Int}  (K : (x1 < 0 → Q (some (vI 0)) h) ∧ (¬(x1 < 0) → (25 ≤ x1 → Q (some (vI 0)) h) ∧ (¬(25 ≤ x1) → Q (some (vI 1)) h))) : WM GX d b mX7_isCell [vI x1] h Q := by
  refine WM_introE (loc' := [some (vI x1)]) rfl (by decide) (Nat.le_of_ble_eq_true rfl) ?_
  refine J_iload_n rfl dX7_isCell_0 ?_
  refine J_if_lt (tgt := 14) dX7_isCell_1 (by decide) (fun c => ?_) (fun c => ?_)
  · replace K := K.1 c
    refine J_iconst (by decide) dX7_isCell_14 ?_
    exact J_zreturn ⟨rfl, by decide⟩ dX7_isCell_15 K
  · replace K := K.2 c
    refine J_iload_n rfl dX7_isCell_4 ?_
    refine J_bipush (by decide) (by decide) dX7_isCell_5 ?_
    refine J_icmp_ge (tgt := 14) dX7_isCell_7 (by decide) (fun c => ?_) (fun c => ?_)
    · replace K := K.1 c
      refine J_iconst (by decide) dX7_isCell_14 ?_
      exact J_zreturn ⟨rfl, by decide⟩ dX7_isCell_15 K
    · replace K := K.2 c
      refine J_iconst (by decide) dX7_isCell_10 ?_
      refine J_goto (tgt := 15) dX7_isCell_11 (by decide) ?_
      exact J_zreturn ⟨rfl, by decide⟩ dX7_isCell_15 K
set_option maxRecDepth 20000 in
set_option maxHeartbeats 2000000 in
theorem w_X7_isKnocks {d b : Nat} {Q : Option AV → AH → Prop} {h : AH} {x1 : Int}  (K : (x1 < 0 → Q (some (vI 0)) h) ∧ (¬(x1 < 0) → (64 ≤ x1 → Q (some (vI 0)) h) ∧ (¬(64 ≤ x1) → Q (some (vI 1)) h))) : WM GX d b mX7_isKnocks [vI x1] h Q := by
  refine WM_introE (loc' := [some (vI x1)]) rfl (by decide) (Nat.le_of_ble_eq_true rfl) ?_
  refine J_iload_n rfl dX7_isKnocks_0 ?_
  refine J_if_lt (tgt := 14) dX7_isKnocks_1 (by decide) (fun c => ?_) (fun c => ?_)
  · replace K := K.1 c
    refine J_iconst (by decide) dX7_isKnocks_14 ?_
    exact J_zreturn ⟨rfl, by decide⟩ dX7_isKnocks_15 K
  · replace K := K.2 c
    refine J_iload_n rfl dX7_isKnocks_4 ?_
    refine J_bipush (by decide) (by decide) dX7_isKnocks_5 ?_
    refine J_icmp_ge (tgt := 14) dX7_isKnocks_7 (by decide) (fun c => ?_) (fun c => ?_)
    · replace K := K.1 c
      refine J_iconst (by decide) dX7_isKnocks_14 ?_
      exact J_zreturn ⟨rfl, by decide⟩ dX7_isKnocks_15 K
    · replace K := K.2 c
      refine J_iconst (by decide) dX7_isKnocks_10 ?_
      refine J_goto (tgt := 15) dX7_isKnocks_11 (by decide) ?_
      exact J_zreturn ⟨rfl, by decide⟩ dX7_isKnocks_15 K
set_option maxRecDepth 20000 in
set_option maxHeartbeats 2000000 in
theorem w_X7_granted {d b : Nat} {Q : Option AV → AH → Prop} {h : AH} {x1 : Int}  (K : ∀ h1, h1 = si h 0 14 0 → Q (some (vI x1)) h1) : WM GX d b mX7_granted [vR (some 0), vI x1] h Q := by
  refine WM_introE (loc' := [some (vR (some 0)), some (vI x1)]) rfl (by decide) (Nat.le_of_ble_eq_true rfl) ?_
  refine J_aload_n rfl dX7_granted_0 ?_
  refine J_iconst (by decide) dX7_granted_1 ?_
  refine J_putI fl_RX7_81 rfl (Or.inl rfl) dX7_granted_2 ?_
  replace K := K _ rfl
  refine J_iload_n rfl dX7_granted_5 ?_
  exact J_ireturn rfl dX7_granted_6 K
set_option maxRecDepth 20000 in
set_option maxHeartbeats 2000000 in
theorem w_X7_refuse {d b : Nat} {Q : Option AV → AH → Prop} {h : AH} {x1 : Int}  (K : ∀ h1, h1 = si h 0 14 x1 → (x1 = (-1) → R32 ((gi h 14 0) + 1) ∧ ∀ h6, h6 = si h1 14 0 ((gi h 14 0) + 1) → Q (some (vI x1)) h6) ∧ (¬(x1 = (-1)) → (x1 = (-2) → R32 ((gi h 14 1) + 1) ∧ ∀ h5, h5 = si h1 14 1 ((gi h 14 1) + 1) → Q (some (vI x1)) h5) ∧ (¬(x1 = (-2)) → (x1 = (-3) → R32 ((gi h 14 2) + 1) ∧ ∀ h4, h4 = si h1 14 2 ((gi h 14 2) + 1) → Q (some (vI x1)) h4) ∧ (¬(x1 = (-3)) → (x1 = (-5) → R32 ((gi h 14 3) + 1) ∧ ∀ h3, h3 = si h1 14 3 ((gi h 14 3) + 1) → Q (some (vI x1)) h3) ∧ (¬(x1 = (-5)) → (x1 = (-6) → R32 ((gi h 14 4) + 1) ∧ ∀ h2, h2 = si h1 14 4 ((gi h 14 4) + 1) → Q (some (vI x1)) h2) ∧ (¬(x1 = (-6)) → Q (some (vI x1)) h1)))))) : WM GX d b mX7_refuse [vR (some 0), vI x1] h Q := by
  refine WM_introE (loc' := [some (vR (some 0)), some (vI x1)]) rfl (by decide) (Nat.le_of_ble_eq_true rfl) ?_
  refine J_aload_n rfl dX7_refuse_0 ?_
  refine J_iload_n rfl dX7_refuse_1 ?_
  refine J_putI fl_RX7_81 rfl (Or.inl rfl) dX7_refuse_2 ?_
  replace K := K _ rfl
  refine J_iload_n rfl dX7_refuse_5 ?_
  refine J_iconst (by decide) dX7_refuse_6 ?_
  refine J_icmp_ne (tgt := 23) dX7_refuse_7 (by decide) (fun c => ?_) (fun c => ?_)
  · replace K := K.2 c
    refine J_iload_n rfl dX7_refuse_23 ?_
    refine J_bipush (by decide) (by decide) dX7_refuse_24 ?_
    refine J_icmp_ne (tgt := 42) dX7_refuse_26 (by decide) (fun c => ?_) (fun c => ?_)
    · replace K := K.2 c
      refine J_iload_n rfl dX7_refuse_42 ?_
      refine J_bipush (by decide) (by decide) dX7_refuse_43 ?_
      refine J_icmp_ne (tgt := 61) dX7_refuse_45 (by decide) (fun c => ?_) (fun c => ?_)
      · replace K := K.2 c
        refine J_iload_n rfl dX7_refuse_61 ?_
        refine J_bipush (by decide) (by decide) dX7_refuse_62 ?_
        refine J_icmp_ne (tgt := 80) dX7_refuse_64 (by decide) (fun c => ?_) (fun c => ?_)
        · replace K := K.2 c
          refine J_iload_n rfl dX7_refuse_80 ?_
          refine J_bipush (by decide) (by decide) dX7_refuse_81 ?_
          refine J_icmp_ne (tgt := 96) dX7_refuse_83 (by decide) (fun c => ?_) (fun c => ?_)
          · replace K := K.2 c
            refine J_iload_n rfl dX7_refuse_96 ?_
            exact J_ireturn rfl dX7_refuse_97 K
          · replace K := K.1 c
            refine J_aload_n rfl dX7_refuse_86 ?_
            refine J_getS (r := 14) fl_RX7_84 rfl (Or.inl rfl) rfl dX7_refuse_87 ?_
            refine J_iconst (by decide) dX7_refuse_90 ?_
            refine J_dup2 rfl rfl dX7_refuse_91 ?_
            refine J_ialoade (Or.inl rfl) (by decide) (gi_no (by decide)) dX7_refuse_92 ?_
            refine J_iconst (by decide) dX7_refuse_93 ?_
            refine J_iadd K.1 dX7_refuse_94 ?_
            replace K := K.2
            refine J_iastore (Or.inl rfl) (by decide) dX7_refuse_95 ?_
            replace K := K _ rfl
            refine J_iload_n rfl dX7_refuse_96 ?_
            exact J_ireturn rfl dX7_refuse_97 K
        · replace K := K.1 c
          refine J_aload_n rfl dX7_refuse_67 ?_
          refine J_getS (r := 14) fl_RX7_84 rfl (Or.inl rfl) rfl dX7_refuse_68 ?_
          refine J_iconst (by decide) dX7_refuse_71 ?_
          refine J_dup2 rfl rfl dX7_refuse_72 ?_
          refine J_ialoade (Or.inl rfl) (by decide) (gi_no (by decide)) dX7_refuse_73 ?_
          refine J_iconst (by decide) dX7_refuse_74 ?_
          refine J_iadd K.1 dX7_refuse_75 ?_
          replace K := K.2
          refine J_iastore (Or.inl rfl) (by decide) dX7_refuse_76 ?_
          replace K := K _ rfl
          refine J_goto (tgt := 96) dX7_refuse_77 (by decide) ?_
          refine J_iload_n rfl dX7_refuse_96 ?_
          exact J_ireturn rfl dX7_refuse_97 K
      · replace K := K.1 c
        refine J_aload_n rfl dX7_refuse_48 ?_
        refine J_getS (r := 14) fl_RX7_84 rfl (Or.inl rfl) rfl dX7_refuse_49 ?_
        refine J_iconst (by decide) dX7_refuse_52 ?_
        refine J_dup2 rfl rfl dX7_refuse_53 ?_
        refine J_ialoade (Or.inl rfl) (by decide) (gi_no (by decide)) dX7_refuse_54 ?_
        refine J_iconst (by decide) dX7_refuse_55 ?_
        refine J_iadd K.1 dX7_refuse_56 ?_
        replace K := K.2
        refine J_iastore (Or.inl rfl) (by decide) dX7_refuse_57 ?_
        replace K := K _ rfl
        refine J_goto (tgt := 96) dX7_refuse_58 (by decide) ?_
        refine J_iload_n rfl dX7_refuse_96 ?_
        exact J_ireturn rfl dX7_refuse_97 K
    · replace K := K.1 c
      refine J_aload_n rfl dX7_refuse_29 ?_
      refine J_getS (r := 14) fl_RX7_84 rfl (Or.inl rfl) rfl dX7_refuse_30 ?_
      refine J_iconst (by decide) dX7_refuse_33 ?_
      refine J_dup2 rfl rfl dX7_refuse_34 ?_
      refine J_ialoade (Or.inl rfl) (by decide) (gi_no (by decide)) dX7_refuse_35 ?_
      refine J_iconst (by decide) dX7_refuse_36 ?_
      refine J_iadd K.1 dX7_refuse_37 ?_
      replace K := K.2
      refine J_iastore (Or.inl rfl) (by decide) dX7_refuse_38 ?_
      replace K := K _ rfl
      refine J_goto (tgt := 96) dX7_refuse_39 (by decide) ?_
      refine J_iload_n rfl dX7_refuse_96 ?_
      exact J_ireturn rfl dX7_refuse_97 K
  · replace K := K.1 c
    refine J_aload_n rfl dX7_refuse_10 ?_
    refine J_getS (r := 14) fl_RX7_84 rfl (Or.inl rfl) rfl dX7_refuse_11 ?_
    refine J_iconst (by decide) dX7_refuse_14 ?_
    refine J_dup2 rfl rfl dX7_refuse_15 ?_
    refine J_ialoade (Or.inl rfl) (by decide) (gi_no (by decide)) dX7_refuse_16 ?_
    refine J_iconst (by decide) dX7_refuse_17 ?_
    refine J_iadd K.1 dX7_refuse_18 ?_
    replace K := K.2
    refine J_iastore (Or.inl rfl) (by decide) dX7_refuse_19 ?_
    replace K := K _ rfl
    refine J_goto (tgt := 96) dX7_refuse_20 (by decide) ?_
    refine J_iload_n rfl dX7_refuse_96 ?_
    exact J_ireturn rfl dX7_refuse_97 K
set_option maxRecDepth 20000 in
set_option maxHeartbeats 2000000 in
theorem w_X0_isHouse {d b : Nat} {Q : Option AV → AH → Prop} {h : AH} {o : Nat} {x1 : Int} (ho : isl o) (K : (x1 < 0 → Q (some (vI 0)) h) ∧ (¬(x1 < 0) → (gi h o 0 ≤ x1 → Q (some (vI 0)) h) ∧ (¬(gi h o 0 ≤ x1) → Q (some (vI 1)) h))) : WM GX d b mX0_isHouse [vR (some o), vI x1] h Q := by
  refine WM_introE (loc' := [some (vR (some o)), some (vI x1)]) rfl (by decide) (Nat.le_of_ble_eq_true rfl) ?_
  refine J_iload_n rfl dX0_isHouse_0 ?_
  refine J_if_lt (tgt := 16) dX0_isHouse_1 (by decide) (fun c => ?_) (fun c => ?_)
  · replace K := K.1 c
    refine J_iconst (by decide) dX0_isHouse_16 ?_
    exact J_zreturn ⟨rfl, by decide⟩ dX0_isHouse_17 K
  · replace K := K.2 c
    refine J_iload_n rfl dX0_isHouse_4 ?_
    refine J_aload_n rfl dX0_isHouse_5 ?_
    refine J_getI fl_RX0_9 rfl (Or.inl (gx_isl ho)) dX0_isHouse_6 ?_
    refine J_icmp_ge (tgt := 16) dX0_isHouse_9 (by decide) (fun c => ?_) (fun c => ?_)
    · replace K := K.1 c
      refine J_iconst (by decide) dX0_isHouse_16 ?_
      exact J_zreturn ⟨rfl, by decide⟩ dX0_isHouse_17 K
    · replace K := K.2 c
      refine J_iconst (by decide) dX0_isHouse_12 ?_
      refine J_goto (tgt := 17) dX0_isHouse_13 (by decide) ?_
      exact J_zreturn ⟨rfl, by decide⟩ dX0_isHouse_17 K
set_option maxRecDepth 20000 in
set_option maxHeartbeats 2000000 in
theorem w_X0_isDoor {d b : Nat} {Q : Option AV → AH → Prop} {h : AH} {o : Nat} {x1 : Int} (ho : isl o) (K : (x1 < 0 → Q (some (vI 0)) h) ∧ (¬(x1 < 0) → (gi h o 2 ≤ x1 → Q (some (vI 0)) h) ∧ (¬(gi h o 2 ≤ x1) → Q (some (vI 1)) h))) : WM GX d b mX0_isDoor [vR (some o), vI x1] h Q := by
  refine WM_introE (loc' := [some (vR (some o)), some (vI x1)]) rfl (by decide) (Nat.le_of_ble_eq_true rfl) ?_
  refine J_iload_n rfl dX0_isDoor_0 ?_
  refine J_if_lt (tgt := 16) dX0_isDoor_1 (by decide) (fun c => ?_) (fun c => ?_)
  · replace K := K.1 c
    refine J_iconst (by decide) dX0_isDoor_16 ?_
    exact J_zreturn ⟨rfl, by decide⟩ dX0_isDoor_17 K
  · replace K := K.2 c
    refine J_iload_n rfl dX0_isDoor_4 ?_
    refine J_aload_n rfl dX0_isDoor_5 ?_
    refine J_getI fl_RX0_19 rfl (Or.inl (gx_isl ho)) dX0_isDoor_6 ?_
    refine J_icmp_ge (tgt := 16) dX0_isDoor_9 (by decide) (fun c => ?_) (fun c => ?_)
    · replace K := K.1 c
      refine J_iconst (by decide) dX0_isDoor_16 ?_
      exact J_zreturn ⟨rfl, by decide⟩ dX0_isDoor_17 K
    · replace K := K.2 c
      refine J_iconst (by decide) dX0_isDoor_12 ?_
      refine J_goto (tgt := 17) dX0_isDoor_13 (by decide) ?_
      exact J_zreturn ⟨rfl, by decide⟩ dX0_isDoor_17 K
set_option maxRecDepth 20000 in
set_option maxHeartbeats 2000000 in
theorem w_X0_isLost {d b : Nat} {Q : Option AV → AH → Prop} {h : AH} {o : Nat} {x1 : Int} (ho : isl o) (K : (0 ≤ x1 ∧ x1 < 8) ∧ (gi h (o + 6) x1 = (-1) → (0 ≤ x1 ∧ x1 < 8) ∧ (gi h (o + 7) x1 = (-1) → Q (some (vI 1)) h) ∧ (¬(gi h (o + 7) x1 = (-1)) → Q (some (vI 0)) h)) ∧ (¬(gi h (o + 6) x1 = (-1)) → Q (some (vI 0)) h)) : WM GX d b mX0_isLost [vR (some o), vI x1] h Q := by
  refine WM_introE (loc' := [some (vR (some o)), some (vI x1)]) rfl (by decide) (Nat.le_of_ble_eq_true rfl) ?_
  refine J_aload_n rfl dX0_isLost_0 ?_
  refine J_getS (r := o + 6) fl_RX0_34 rfl (Or.inl (gx_isl ho)) (gx_r6 ho) dX0_isLost_1 ?_
  refine J_iload_n rfl dX0_isLost_4 ?_
  refine J_iaload (Or.inl (gx_a6 ho)) K.1 dX0_isLost_5 ?_
  replace K := K.2
  refine J_iconst (by decide) dX0_isLost_6 ?_
  refine J_icmp_ne (tgt := 24) dX0_isLost_7 (by decide) (fun c => ?_) (fun c => ?_)
  · replace K := K.2 c
    refine J_iconst (by decide) dX0_isLost_24 ?_
    exact J_zreturn ⟨rfl, by decide⟩ dX0_isLost_25 K
  · replace K := K.1 c
    refine J_aload_n rfl dX0_isLost_10 ?_
    refine J_getS (r := o + 7) fl_RX0_37 rfl (Or.inl (gx_isl ho)) (gx_r7 ho) dX0_isLost_11 ?_
    refine J_iload_n rfl dX0_isLost_14 ?_
    refine J_iaload (Or.inl (gx_a7 ho)) K.1 dX0_isLost_15 ?_
    replace K := K.2
    refine J_iconst (by decide) dX0_isLost_16 ?_
    refine J_icmp_ne (tgt := 24) dX0_isLost_17 (by decide) (fun c => ?_) (fun c => ?_)
    · replace K := K.2 c
      refine J_iconst (by decide) dX0_isLost_24 ?_
      exact J_zreturn ⟨rfl, by decide⟩ dX0_isLost_25 K
    · replace K := K.1 c
      refine J_iconst (by decide) dX0_isLost_20 ?_
      refine J_goto (tgt := 25) dX0_isLost_21 (by decide) ?_
      exact J_zreturn ⟨rfl, by decide⟩ dX0_isLost_25 K
def Lp_X0_doorIn_2 (d b : Nat) (Q : Option AV → AH → Prop) (o : Nat) (y1 : Int) (y2 : Int) (h : AH) : Prop := J GX d b mX0_doorIn Q 2 [some (vR (some o)), some (vI y1), some (vI y2)] [] h
set_option maxRecDepth 20000 in
set_option maxHeartbeats 2000000 in
theorem l_X0_doorIn_2 {d b : Nat} {Q : Option AV → AH → Prop} {h : AH} {o : Nat} {y1 : Int} {y2 : Int} (ho : isl o) (K : (gi h o 2 ≤ y2 → Q (some (vI (-1))) h) ∧ (¬(gi h o 2 ≤ y2) → (0 ≤ y2 ∧ y2 < 8) ∧ (gi h (o + 6) y2 = y1 → Q (some (vI y2)) h) ∧ (¬(gi h (o + 6) y2 = y1) → R32 (y2 + 1) ∧ Lp_X0_doorIn_2 d b Q o y1 (y2 + 1) h))) : Lp_X0_doorIn_2 d b Q o y1 y2 h := by
  unfold Lp_X0_doorIn_2
  refine J_iload_n rfl dX0_doorIn_2 ?_
  refine J_aload_n rfl dX0_doorIn_3 ?_
  refine J_getI fl_RX0_19 rfl (Or.inl (gx_isl ho)) dX0_doorIn_4 ?_
  refine J_icmp_ge (tgt := 28) dX0_doorIn_7 (by decide) (fun c => ?_) (fun c => ?_)
  · replace K := K.1 c
    refine J_iconst (by decide) dX0_doorIn_28 ?_
    exact J_ireturn rfl dX0_doorIn_29 K
  · replace K := K.2 c
    refine J_aload_n rfl dX0_doorIn_10 ?_
    refine J_getS (r := o + 6) fl_RX0_34 rfl (Or.inl (gx_isl ho)) (gx_r6 ho) dX0_doorIn_11 ?_
    refine J_iload_n rfl dX0_doorIn_14 ?_
    refine J_iaload (Or.inl (gx_a6 ho)) K.1 dX0_doorIn_15 ?_
    replace K := K.2
    refine J_iload_n rfl dX0_doorIn_16 ?_
    refine J_icmp_ne (tgt := 22) dX0_doorIn_17 (by decide) (fun c => ?_) (fun c => ?_)
    · replace K := K.2 c
      refine J_iinc (loc' := [some (vR (some o)), some (vI y1), some (vI (y2 + 1))]) (by decide) rfl K.1 rfl dX0_doorIn_22 ?_
      replace K := K.2
      refine J_goto (tgt := 2) dX0_doorIn_25 (by decide) ?_
      exact J_forget (loc' := [some (vR (some o)), some (vI y1), some (vI (y2 + 1))]) (And.intro (Or.inr rfl) (And.intro (Or.inr rfl) (And.intro (Or.inr rfl) True.intro))) K
    · replace K := K.1 c
      refine J_iload_n rfl dX0_doorIn_20 ?_
      exact J_ireturn rfl dX0_doorIn_21 K
set_option maxRecDepth 20000 in
set_option maxHeartbeats 2000000 in
theorem w_X0_doorIn {d b : Nat} {Q : Option AV → AH → Prop} {h : AH} {o : Nat} {x1 : Int} (ho : isl o) (K : Lp_X0_doorIn_2 d b Q o x1 0 h) : WM GX d b mX0_doorIn [vR (some o), vI x1] h Q := by
  refine WM_introE (loc' := [some (vR (some o)), some (vI x1), none]) rfl (by decide) (Nat.le_of_ble_eq_true rfl) ?_
  refine J_iconst (by decide) dX0_doorIn_0 ?_
  refine J_istore_n (loc' := [some (vR (some o)), some (vI x1), some (vI 0)]) (by decide) rfl dX0_doorIn_1 ?_
  exact J_forget (loc' := [some (vR (some o)), some (vI x1), some (vI 0)]) (And.intro (Or.inr rfl) (And.intro (Or.inr rfl) (And.intro (Or.inr rfl) True.intro))) K
set_option maxRecDepth 20000 in
set_option maxHeartbeats 2000000 in
theorem w_X0_beside {d b : Nat} {Q : Option AV → AH → Prop} {h : AH} {x1 : Int} {x2 : Int}  (K : R32 (Int.tmod x1 5) ∧ R32 (Int.tdiv x1 5) ∧ (x2 = 1 → R32 ((Int.tdiv x1 5) + (-1)) ∧ (Int.tmod x1 5 < 0 → Q (some (vI (-1))) h) ∧ (¬(Int.tmod x1 5 < 0) → ((Int.tdiv x1 5) + (-1) < 0 → Q (some (vI (-1))) h) ∧ (¬((Int.tdiv x1 5) + (-1) < 0) → (5 ≤ Int.tmod x1 5 → Q (some (vI (-1))) h) ∧ (¬(5 ≤ Int.tmod x1 5) → ((Int.tdiv x1 5) + (-1) < 5 → R32 (((Int.tdiv x1 5) + (-1)) * 5) ∧ R32 ((((Int.tdiv x1 5) + (-1)) * 5) + (Int.tmod x1 5)) ∧ Q (some (vI ((((Int.tdiv x1 5) + (-1)) * 5) + (Int.tmod x1 5)))) h) ∧ (¬((Int.tdiv x1 5) + (-1) < 5) → Q (some (vI (-1))) h))))) ∧ (¬(x2 = 1) → (x2 = 2 → R32 ((Int.tmod x1 5) + 1) ∧ ((Int.tmod x1 5) + 1 < 0 → Q (some (vI (-1))) h) ∧ (¬((Int.tmod x1 5) + 1 < 0) → (Int.tdiv x1 5 < 0 → Q (some (vI (-1))) h) ∧ (¬(Int.tdiv x1 5 < 0) → (5 ≤ (Int.tmod x1 5) + 1 → Q (some (vI (-1))) h) ∧ (¬(5 ≤ (Int.tmod x1 5) + 1) → (Int.tdiv x1 5 < 5 → R32 ((Int.tdiv x1 5) * 5) ∧ R32 (((Int.tdiv x1 5) * 5) + ((Int.tmod x1 5) + 1)) ∧ Q (some (vI (((Int.tdiv x1 5) * 5) + ((Int.tmod x1 5) + 1)))) h) ∧ (¬(Int.tdiv x1 5 < 5) → Q (some (vI (-1))) h))))) ∧ (¬(x2 = 2) → (x2 = 3 → R32 ((Int.tdiv x1 5) + 1) ∧ (Int.tmod x1 5 < 0 → Q (some (vI (-1))) h) ∧ (¬(Int.tmod x1 5 < 0) → ((Int.tdiv x1 5) + 1 < 0 → Q (some (vI (-1))) h) ∧ (¬((Int.tdiv x1 5) + 1 < 0) → (5 ≤ Int.tmod x1 5 → Q (some (vI (-1))) h) ∧ (¬(5 ≤ Int.tmod x1 5) → ((Int.tdiv x1 5) + 1 < 5 → R32 (((Int.tdiv x1 5) + 1) * 5) ∧ R32 ((((Int.tdiv x1 5) + 1) * 5) + (Int.tmod x1 5)) ∧ Q (some (vI ((((Int.tdiv x1 5) + 1) * 5) + (Int.tmod x1 5)))) h) ∧ (¬((Int.tdiv x1 5) + 1 < 5) → Q (some (vI (-1))) h))))) ∧ (¬(x2 = 3) → (x2 = 4 → R32 ((Int.tmod x1 5) + (-1)) ∧ ((Int.tmod x1 5) + (-1) < 0 → Q (some (vI (-1))) h) ∧ (¬((Int.tmod x1 5) + (-1) < 0) → (Int.tdiv x1 5 < 0 → Q (some (vI (-1))) h) ∧ (¬(Int.tdiv x1 5 < 0) → (5 ≤ (Int.tmod x1 5) + (-1) → Q (some (vI (-1))) h) ∧ (¬(5 ≤ (Int.tmod x1 5) + (-1)) → (Int.tdiv x1 5 < 5 → R32 ((Int.tdiv x1 5) * 5) ∧ R32 (((Int.tdiv x1 5) * 5) + ((Int.tmod x1 5) + (-1))) ∧ Q (some (vI (((Int.tdiv x1 5) * 5) + ((Int.tmod x1 5) + (-1))))) h) ∧ (¬(Int.tdiv x1 5 < 5) → Q (some (vI (-1))) h))))) ∧ (¬(x2 = 4) → (Int.tmod x1 5 < 0 → Q (some (vI (-1))) h) ∧ (¬(Int.tmod x1 5 < 0) → (Int.tdiv x1 5 < 0 → Q (some (vI (-1))) h) ∧ (¬(Int.tdiv x1 5 < 0) → (5 ≤ Int.tmod x1 5 → Q (some (vI (-1))) h) ∧ (¬(5 ≤ Int.tmod x1 5) → (Int.tdiv x1 5 < 5 → R32 ((Int.tdiv x1 5) * 5) ∧ R32 (((Int.tdiv x1 5) * 5) + (Int.tmod x1 5)) ∧ Q (some (vI (((Int.tdiv x1 5) * 5) + (Int.tmod x1 5)))) h) ∧ (¬(Int.tdiv x1 5 < 5) → Q (some (vI (-1))) h))))))))) : WM GX d b mX0_beside [vI x1, vI x2] h Q := by
  refine WM_introE (loc' := [some (vI x1), some (vI x2), none, none]) rfl (by decide) (Nat.le_of_ble_eq_true rfl) ?_
  refine J_iload_n rfl dX0_beside_0 ?_
  refine J_iconst (by decide) dX0_beside_1 ?_
  refine J_irem (by decide) K.1 dX0_beside_2 ?_
  replace K := K.2
  refine J_istore_n (loc' := [some (vI x1), some (vI x2), some (vI (Int.tmod x1 5)), none]) (by decide) rfl dX0_beside_3 ?_
  refine J_iload_n rfl dX0_beside_4 ?_
  refine J_iconst (by decide) dX0_beside_5 ?_
  refine J_idiv (by decide) K.1 dX0_beside_6 ?_
  replace K := K.2
  refine J_istore_n (loc' := [some (vI x1), some (vI x2), some (vI (Int.tmod x1 5)), some (vI (Int.tdiv x1 5))]) (by decide) rfl dX0_beside_7 ?_
  refine J_iload_n rfl dX0_beside_8 ?_
  refine J_iconst (by decide) dX0_beside_9 ?_
  refine J_icmp_ne (tgt := 19) dX0_beside_10 (by decide) (fun c => ?_) (fun c => ?_)
  · replace K := K.2 c
    refine J_iload_n rfl dX0_beside_19 ?_
    refine J_iconst (by decide) dX0_beside_20 ?_
    refine J_icmp_ne (tgt := 30) dX0_beside_21 (by decide) (fun c => ?_) (fun c => ?_)
    · replace K := K.2 c
      refine J_iload_n rfl dX0_beside_30 ?_
      refine J_iconst (by decide) dX0_beside_31 ?_
      refine J_icmp_ne (tgt := 41) dX0_beside_32 (by decide) (fun c => ?_) (fun c => ?_)
      · replace K := K.2 c
        refine J_iload_n rfl dX0_beside_41 ?_
        refine J_iconst (by decide) dX0_beside_42 ?_
        refine J_icmp_ne (tgt := 49) dX0_beside_43 (by decide) (fun c => ?_) (fun c => ?_)
        · replace K := K.2 c
          refine J_iload_n rfl dX0_beside_49 ?_
          refine J_if_lt (tgt := 67) dX0_beside_50 (by decide) (fun c => ?_) (fun c => ?_)
          · replace K := K.1 c
            refine J_iconst (by decide) dX0_beside_67 ?_
            refine J_goto (tgt := 76) dX0_beside_68 (by decide) ?_
            exact J_ireturn rfl dX0_beside_76 K
          · replace K := K.2 c
            refine J_iload_n rfl dX0_beside_53 ?_
            refine J_if_lt (tgt := 67) dX0_beside_54 (by decide) (fun c => ?_) (fun c => ?_)
            · replace K := K.1 c
              refine J_iconst (by decide) dX0_beside_67 ?_
              refine J_goto (tgt := 76) dX0_beside_68 (by decide) ?_
              exact J_ireturn rfl dX0_beside_76 K
            · replace K := K.2 c
              refine J_iload_n rfl dX0_beside_57 ?_
              refine J_iconst (by decide) dX0_beside_58 ?_
              refine J_icmp_ge (tgt := 67) dX0_beside_59 (by decide) (fun c => ?_) (fun c => ?_)
              · replace K := K.1 c
                refine J_iconst (by decide) dX0_beside_67 ?_
                refine J_goto (tgt := 76) dX0_beside_68 (by decide) ?_
                exact J_ireturn rfl dX0_beside_76 K
              · replace K := K.2 c
                refine J_iload_n rfl dX0_beside_62 ?_
                refine J_iconst (by decide) dX0_beside_63 ?_
                refine J_icmp_lt (tgt := 71) dX0_beside_64 (by decide) (fun c => ?_) (fun c => ?_)
                · replace K := K.1 c
                  refine J_iload_n rfl dX0_beside_71 ?_
                  refine J_iconst (by decide) dX0_beside_72 ?_
                  refine J_imul K.1 dX0_beside_73 ?_
                  replace K := K.2
                  refine J_iload_n rfl dX0_beside_74 ?_
                  refine J_iadd K.1 dX0_beside_75 ?_
                  replace K := K.2
                  exact J_ireturn rfl dX0_beside_76 K
                · replace K := K.2 c
                  refine J_iconst (by decide) dX0_beside_67 ?_
                  refine J_goto (tgt := 76) dX0_beside_68 (by decide) ?_
                  exact J_ireturn rfl dX0_beside_76 K
        · replace K := K.1 c
          refine J_iinc (loc' := [some (vI x1), some (vI x2), some (vI ((Int.tmod x1 5) + (-1))), some (vI (Int.tdiv x1 5))]) (by decide) rfl K.1 rfl dX0_beside_46 ?_
          replace K := K.2
          refine J_iload_n rfl dX0_beside_49 ?_
          refine J_if_lt (tgt := 67) dX0_beside_50 (by decide) (fun c => ?_) (fun c => ?_)
          · replace K := K.1 c
            refine J_iconst (by decide) dX0_beside_67 ?_
            refine J_goto (tgt := 76) dX0_beside_68 (by decide) ?_
            exact J_ireturn rfl dX0_beside_76 K
          · replace K := K.2 c
            refine J_iload_n rfl dX0_beside_53 ?_
            refine J_if_lt (tgt := 67) dX0_beside_54 (by decide) (fun c => ?_) (fun c => ?_)
            · replace K := K.1 c
              refine J_iconst (by decide) dX0_beside_67 ?_
              refine J_goto (tgt := 76) dX0_beside_68 (by decide) ?_
              exact J_ireturn rfl dX0_beside_76 K
            · replace K := K.2 c
              refine J_iload_n rfl dX0_beside_57 ?_
              refine J_iconst (by decide) dX0_beside_58 ?_
              refine J_icmp_ge (tgt := 67) dX0_beside_59 (by decide) (fun c => ?_) (fun c => ?_)
              · replace K := K.1 c
                refine J_iconst (by decide) dX0_beside_67 ?_
                refine J_goto (tgt := 76) dX0_beside_68 (by decide) ?_
                exact J_ireturn rfl dX0_beside_76 K
              · replace K := K.2 c
                refine J_iload_n rfl dX0_beside_62 ?_
                refine J_iconst (by decide) dX0_beside_63 ?_
                refine J_icmp_lt (tgt := 71) dX0_beside_64 (by decide) (fun c => ?_) (fun c => ?_)
                · replace K := K.1 c
                  refine J_iload_n rfl dX0_beside_71 ?_
                  refine J_iconst (by decide) dX0_beside_72 ?_
                  refine J_imul K.1 dX0_beside_73 ?_
                  replace K := K.2
                  refine J_iload_n rfl dX0_beside_74 ?_
                  refine J_iadd K.1 dX0_beside_75 ?_
                  replace K := K.2
                  exact J_ireturn rfl dX0_beside_76 K
                · replace K := K.2 c
                  refine J_iconst (by decide) dX0_beside_67 ?_
                  refine J_goto (tgt := 76) dX0_beside_68 (by decide) ?_
                  exact J_ireturn rfl dX0_beside_76 K
      · replace K := K.1 c
        refine J_iinc (loc' := [some (vI x1), some (vI x2), some (vI (Int.tmod x1 5)), some (vI ((Int.tdiv x1 5) + 1))]) (by decide) rfl K.1 rfl dX0_beside_35 ?_
        replace K := K.2
        refine J_goto (tgt := 49) dX0_beside_38 (by decide) ?_
        refine J_iload_n rfl dX0_beside_49 ?_
        refine J_if_lt (tgt := 67) dX0_beside_50 (by decide) (fun c => ?_) (fun c => ?_)
        · replace K := K.1 c
          refine J_iconst (by decide) dX0_beside_67 ?_
          refine J_goto (tgt := 76) dX0_beside_68 (by decide) ?_
          exact J_ireturn rfl dX0_beside_76 K
        · replace K := K.2 c
          refine J_iload_n rfl dX0_beside_53 ?_
          refine J_if_lt (tgt := 67) dX0_beside_54 (by decide) (fun c => ?_) (fun c => ?_)
          · replace K := K.1 c
            refine J_iconst (by decide) dX0_beside_67 ?_
            refine J_goto (tgt := 76) dX0_beside_68 (by decide) ?_
            exact J_ireturn rfl dX0_beside_76 K
          · replace K := K.2 c
            refine J_iload_n rfl dX0_beside_57 ?_
            refine J_iconst (by decide) dX0_beside_58 ?_
            refine J_icmp_ge (tgt := 67) dX0_beside_59 (by decide) (fun c => ?_) (fun c => ?_)
            · replace K := K.1 c
              refine J_iconst (by decide) dX0_beside_67 ?_
              refine J_goto (tgt := 76) dX0_beside_68 (by decide) ?_
              exact J_ireturn rfl dX0_beside_76 K
            · replace K := K.2 c
              refine J_iload_n rfl dX0_beside_62 ?_
              refine J_iconst (by decide) dX0_beside_63 ?_
              refine J_icmp_lt (tgt := 71) dX0_beside_64 (by decide) (fun c => ?_) (fun c => ?_)
              · replace K := K.1 c
                refine J_iload_n rfl dX0_beside_71 ?_
                refine J_iconst (by decide) dX0_beside_72 ?_
                refine J_imul K.1 dX0_beside_73 ?_
                replace K := K.2
                refine J_iload_n rfl dX0_beside_74 ?_
                refine J_iadd K.1 dX0_beside_75 ?_
                replace K := K.2
                exact J_ireturn rfl dX0_beside_76 K
              · replace K := K.2 c
                refine J_iconst (by decide) dX0_beside_67 ?_
                refine J_goto (tgt := 76) dX0_beside_68 (by decide) ?_
                exact J_ireturn rfl dX0_beside_76 K
    · replace K := K.1 c
      refine J_iinc (loc' := [some (vI x1), some (vI x2), some (vI ((Int.tmod x1 5) + 1)), some (vI (Int.tdiv x1 5))]) (by decide) rfl K.1 rfl dX0_beside_24 ?_
      replace K := K.2
      refine J_goto (tgt := 49) dX0_beside_27 (by decide) ?_
      refine J_iload_n rfl dX0_beside_49 ?_
      refine J_if_lt (tgt := 67) dX0_beside_50 (by decide) (fun c => ?_) (fun c => ?_)
      · replace K := K.1 c
        refine J_iconst (by decide) dX0_beside_67 ?_
        refine J_goto (tgt := 76) dX0_beside_68 (by decide) ?_
        exact J_ireturn rfl dX0_beside_76 K
      · replace K := K.2 c
        refine J_iload_n rfl dX0_beside_53 ?_
        refine J_if_lt (tgt := 67) dX0_beside_54 (by decide) (fun c => ?_) (fun c => ?_)
        · replace K := K.1 c
          refine J_iconst (by decide) dX0_beside_67 ?_
          refine J_goto (tgt := 76) dX0_beside_68 (by decide) ?_
          exact J_ireturn rfl dX0_beside_76 K
        · replace K := K.2 c
          refine J_iload_n rfl dX0_beside_57 ?_
          refine J_iconst (by decide) dX0_beside_58 ?_
          refine J_icmp_ge (tgt := 67) dX0_beside_59 (by decide) (fun c => ?_) (fun c => ?_)
          · replace K := K.1 c
            refine J_iconst (by decide) dX0_beside_67 ?_
            refine J_goto (tgt := 76) dX0_beside_68 (by decide) ?_
            exact J_ireturn rfl dX0_beside_76 K
          · replace K := K.2 c
            refine J_iload_n rfl dX0_beside_62 ?_
            refine J_iconst (by decide) dX0_beside_63 ?_
            refine J_icmp_lt (tgt := 71) dX0_beside_64 (by decide) (fun c => ?_) (fun c => ?_)
            · replace K := K.1 c
              refine J_iload_n rfl dX0_beside_71 ?_
              refine J_iconst (by decide) dX0_beside_72 ?_
              refine J_imul K.1 dX0_beside_73 ?_
              replace K := K.2
              refine J_iload_n rfl dX0_beside_74 ?_
              refine J_iadd K.1 dX0_beside_75 ?_
              replace K := K.2
              exact J_ireturn rfl dX0_beside_76 K
            · replace K := K.2 c
              refine J_iconst (by decide) dX0_beside_67 ?_
              refine J_goto (tgt := 76) dX0_beside_68 (by decide) ?_
              exact J_ireturn rfl dX0_beside_76 K
  · replace K := K.1 c
    refine J_iinc (loc' := [some (vI x1), some (vI x2), some (vI (Int.tmod x1 5)), some (vI ((Int.tdiv x1 5) + (-1)))]) (by decide) rfl K.1 rfl dX0_beside_13 ?_
    replace K := K.2
    refine J_goto (tgt := 49) dX0_beside_16 (by decide) ?_
    refine J_iload_n rfl dX0_beside_49 ?_
    refine J_if_lt (tgt := 67) dX0_beside_50 (by decide) (fun c => ?_) (fun c => ?_)
    · replace K := K.1 c
      refine J_iconst (by decide) dX0_beside_67 ?_
      refine J_goto (tgt := 76) dX0_beside_68 (by decide) ?_
      exact J_ireturn rfl dX0_beside_76 K
    · replace K := K.2 c
      refine J_iload_n rfl dX0_beside_53 ?_
      refine J_if_lt (tgt := 67) dX0_beside_54 (by decide) (fun c => ?_) (fun c => ?_)
      · replace K := K.1 c
        refine J_iconst (by decide) dX0_beside_67 ?_
        refine J_goto (tgt := 76) dX0_beside_68 (by decide) ?_
        exact J_ireturn rfl dX0_beside_76 K
      · replace K := K.2 c
        refine J_iload_n rfl dX0_beside_57 ?_
        refine J_iconst (by decide) dX0_beside_58 ?_
        refine J_icmp_ge (tgt := 67) dX0_beside_59 (by decide) (fun c => ?_) (fun c => ?_)
        · replace K := K.1 c
          refine J_iconst (by decide) dX0_beside_67 ?_
          refine J_goto (tgt := 76) dX0_beside_68 (by decide) ?_
          exact J_ireturn rfl dX0_beside_76 K
        · replace K := K.2 c
          refine J_iload_n rfl dX0_beside_62 ?_
          refine J_iconst (by decide) dX0_beside_63 ?_
          refine J_icmp_lt (tgt := 71) dX0_beside_64 (by decide) (fun c => ?_) (fun c => ?_)
          · replace K := K.1 c
            refine J_iload_n rfl dX0_beside_71 ?_
            refine J_iconst (by decide) dX0_beside_72 ?_
            refine J_imul K.1 dX0_beside_73 ?_
            replace K := K.2
            refine J_iload_n rfl dX0_beside_74 ?_
            refine J_iadd K.1 dX0_beside_75 ?_
            replace K := K.2
            exact J_ireturn rfl dX0_beside_76 K
          · replace K := K.2 c
            refine J_iconst (by decide) dX0_beside_67 ?_
            refine J_goto (tgt := 76) dX0_beside_68 (by decide) ?_
            exact J_ireturn rfl dX0_beside_76 K
set_option maxRecDepth 20000 in
set_option maxHeartbeats 2000000 in
theorem w_X3_isLetter {d b : Nat} {Q : Option AV → AH → Prop} {h : AH} {x1 : Int}  (K : (x1 < 97 → Q (some (vI 0)) h) ∧ (¬(x1 < 97) → (122 < x1 → Q (some (vI 0)) h) ∧ (¬(122 < x1) → Q (some (vI 1)) h))) : WM GX d b mX3_isLetter [vI x1] h Q := by
  refine WM_introE (loc' := [some (vI x1)]) rfl (by decide) (Nat.le_of_ble_eq_true rfl) ?_
  refine J_iload_n rfl dX3_isLetter_0 ?_
  refine J_bipush (by decide) (by decide) dX3_isLetter_1 ?_
  refine J_icmp_lt (tgt := 16) dX3_isLetter_3 (by decide) (fun c => ?_) (fun c => ?_)
  · replace K := K.1 c
    refine J_iconst (by decide) dX3_isLetter_16 ?_
    exact J_zreturn ⟨rfl, by decide⟩ dX3_isLetter_17 K
  · replace K := K.2 c
    refine J_iload_n rfl dX3_isLetter_6 ?_
    refine J_bipush (by decide) (by decide) dX3_isLetter_7 ?_
    refine J_icmp_gt (tgt := 16) dX3_isLetter_9 (by decide) (fun c => ?_) (fun c => ?_)
    · replace K := K.1 c
      refine J_iconst (by decide) dX3_isLetter_16 ?_
      exact J_zreturn ⟨rfl, by decide⟩ dX3_isLetter_17 K
    · replace K := K.2 c
      refine J_iconst (by decide) dX3_isLetter_12 ?_
      refine J_goto (tgt := 17) dX3_isLetter_13 (by decide) ?_
      exact J_zreturn ⟨rfl, by decide⟩ dX3_isLetter_17 K
set_option maxRecDepth 20000 in
set_option maxHeartbeats 2000000 in
theorem w_X3_isDigit {d b : Nat} {Q : Option AV → AH → Prop} {h : AH} {x1 : Int}  (K : (x1 < 48 → Q (some (vI 0)) h) ∧ (¬(x1 < 48) → (57 < x1 → Q (some (vI 0)) h) ∧ (¬(57 < x1) → Q (some (vI 1)) h))) : WM GX d b mX3_isDigit [vI x1] h Q := by
  refine WM_introE (loc' := [some (vI x1)]) rfl (by decide) (Nat.le_of_ble_eq_true rfl) ?_
  refine J_iload_n rfl dX3_isDigit_0 ?_
  refine J_bipush (by decide) (by decide) dX3_isDigit_1 ?_
  refine J_icmp_lt (tgt := 16) dX3_isDigit_3 (by decide) (fun c => ?_) (fun c => ?_)
  · replace K := K.1 c
    refine J_iconst (by decide) dX3_isDigit_16 ?_
    exact J_zreturn ⟨rfl, by decide⟩ dX3_isDigit_17 K
  · replace K := K.2 c
    refine J_iload_n rfl dX3_isDigit_6 ?_
    refine J_bipush (by decide) (by decide) dX3_isDigit_7 ?_
    refine J_icmp_gt (tgt := 16) dX3_isDigit_9 (by decide) (fun c => ?_) (fun c => ?_)
    · replace K := K.1 c
      refine J_iconst (by decide) dX3_isDigit_16 ?_
      exact J_zreturn ⟨rfl, by decide⟩ dX3_isDigit_17 K
    · replace K := K.2 c
      refine J_iconst (by decide) dX3_isDigit_12 ?_
      refine J_goto (tgt := 17) dX3_isDigit_13 (by decide) ?_
      exact J_zreturn ⟨rfl, by decide⟩ dX3_isDigit_17 K
def Lp_X4_append_3 (d b : Nat) (Q : Option AV → AH → Prop)  (y1 : Int) (y2 : Int) (h : AH) : Prop := J GX d b mX4_append Q 3 [some (vR (some 29)), some (vI y1), some (vI y2)] [] h
set_option maxRecDepth 20000 in
set_option maxHeartbeats 2000000 in
theorem l_X4_append_3 {d b : Nat} {Q : Option AV → AH → Prop} {h : AH}  {y1 : Int} {y2 : Int}  (K : (y2 < 0 → Q none h) ∧ (¬(y2 < 0) → (400 ≤ gi h 29 1 → Q none h) ∧ (¬(400 ≤ gi h 29 1) → (0 ≤ gi h 29 1 ∧ gi h 29 1 < 400) ∧ ∀ h1, h1 = si h 30 (gi h 29 1) (zand (zushr y1 y2) 255) → R32 ((gi h 29 1) + 1) ∧ ∀ h2, h2 = si h1 29 1 ((gi h 29 1) + 1) → R32 (y2 + (-8)) ∧ Lp_X4_append_3 d b Q y1 (y2 + (-8)) h2))) : Lp_X4_append_3 d b Q y1 y2 h := by
  unfold Lp_X4_append_3
  refine J_iload_n rfl dX4_append_3 ?_
  refine J_if_lt (tgt := 49) dX4_append_4 (by decide) (fun c => ?_) (fun c => ?_)
  · replace K := K.1 c
    exact J_return rfl dX4_append_49 K
  · replace K := K.2 c
    refine J_aload_n rfl dX4_append_7 ?_
    refine J_getI fl_RX4_15 rfl (Or.inl rfl) dX4_append_8 ?_
    refine J_sipush (by decide) (by decide) dX4_append_11 ?_
    refine J_icmp_ge (tgt := 49) dX4_append_14 (by decide) (fun c => ?_) (fun c => ?_)
    · replace K := K.1 c
      exact J_return rfl dX4_append_49 K
    · replace K := K.2 c
      refine J_aload_n rfl dX4_append_17 ?_
      refine J_getS (r := 30) fl_RX4_9 rfl (Or.inl rfl) rfl dX4_append_18 ?_
      refine J_aload_n rfl dX4_append_21 ?_
      refine J_getI fl_RX4_15 rfl (Or.inl rfl) dX4_append_22 ?_
      refine J_iload_n rfl dX4_append_25 ?_
      refine J_iload_n rfl dX4_append_26 ?_
      refine J_iushr dX4_append_27 ?_
      refine J_sipush (by decide) (by decide) dX4_append_28 ?_
      refine J_iand dX4_append_31 ?_
      refine J_iastore (Or.inl rfl) K.1 dX4_append_32 ?_
      replace K := K.2
      replace K := K _ rfl
      refine J_aload_n rfl dX4_append_33 ?_
      refine J_dup rfl dX4_append_34 ?_
      refine J_getIe fl_RX4_15 rfl (Or.inl rfl) (gi_no (by decide)) dX4_append_35 ?_
      refine J_iconst (by decide) dX4_append_38 ?_
      refine J_iadd K.1 dX4_append_39 ?_
      replace K := K.2
      refine J_putI fl_RX4_15 rfl (Or.inl rfl) dX4_append_40 ?_
      replace K := K _ rfl
      refine J_iinc (loc' := [some (vR (some 29)), some (vI y1), some (vI (y2 + (-8)))]) (by decide) rfl K.1 rfl dX4_append_43 ?_
      replace K := K.2
      refine J_goto (tgt := 3) dX4_append_46 (by decide) ?_
      exact J_forget (loc' := [some (vR (some 29)), some (vI y1), some (vI (y2 + (-8)))]) (And.intro (Or.inr rfl) (And.intro (Or.inr rfl) (And.intro (Or.inr rfl) True.intro))) K
set_option maxRecDepth 20000 in
set_option maxHeartbeats 2000000 in
theorem w_X4_append {d b : Nat} {Q : Option AV → AH → Prop} {h : AH} {x1 : Int}  (K : Lp_X4_append_3 d b Q x1 24 h) : WM GX d b mX4_append [vR (some 29), vI x1] h Q := by
  refine WM_introE (loc' := [some (vR (some 29)), some (vI x1), none]) rfl (by decide) (Nat.le_of_ble_eq_true rfl) ?_
  refine J_bipush (by decide) (by decide) dX4_append_0 ?_
  refine J_istore_n (loc' := [some (vR (some 29)), some (vI x1), some (vI 24)]) (by decide) rfl dX4_append_2 ?_
  exact J_forget (loc' := [some (vR (some 29)), some (vI x1), some (vI 24)]) (And.intro (Or.inr rfl) (And.intro (Or.inr rfl) (And.intro (Or.inr rfl) True.intro))) K
set_option maxRecDepth 20000 in
set_option maxHeartbeats 2000000 in
theorem w_X6_trim {d b : Nat} {Q : Option AV → AH → Prop} {h : AH}   (K : R32 ((gi h 41 1) - 16) ∧ (0 < (gi h 41 1) - 16 → R32 (((gi h 41 1) - 16) * 51) ∧ ((0 : Int) ≤ ((gi h 41 1) - 16) * 51 ∧ (0 : Int) ≤ 0 ∧ (0 : Int) ≤ 816) ∧ ((((gi h 41 1) - 16) * 51) : Int) + 816 ≤ 13056 ∧ (0 : Int) + 816 ≤ 13056 ∧ ∀ h1, h1 = cpy h 42 (((gi h 41 1) - 16) * 51) 42 0 816 → ∀ h2, h2 = si h1 41 1 16 → Q none h2) ∧ (¬(0 < (gi h 41 1) - 16) → Q none h)) : WM GX (d + 1) b mX6_trim [vR (some 41)] h Q := by
  refine WM_introE (loc' := [some (vR (some 41)), none]) rfl (by decide) (Nat.le_of_ble_eq_true rfl) ?_
  refine J_aload_n rfl dX6_trim_0 ?_
  refine J_getI fl_RX6_15 rfl (Or.inl rfl) dX6_trim_1 ?_
  refine J_bipush (by decide) (by decide) dX6_trim_4 ?_
  refine J_isub K.1 dX6_trim_6 ?_
  replace K := K.2
  refine J_istore_n (loc' := [some (vR (some 41)), some (vI ((gi h 41 1) - 16))]) (by decide) rfl dX6_trim_7 ?_
  refine J_iload_n rfl dX6_trim_8 ?_
  refine J_if_gt (tgt := 13) dX6_trim_9 (by decide) (fun c => ?_) (fun c => ?_)
  · replace K := K.1 c
    refine J_aload_n rfl dX6_trim_13 ?_
    refine J_getS (r := 42) fl_RX6_11 rfl (Or.inl rfl) rfl dX6_trim_14 ?_
    refine J_iload_n rfl dX6_trim_17 ?_
    refine J_bipush (by decide) (by decide) dX6_trim_18 ?_
    refine J_imul K.1 dX6_trim_20 ?_
    replace K := K.2
    refine J_aload_n rfl dX6_trim_21 ?_
    refine J_getS (r := 42) fl_RX6_11 rfl (Or.inl rfl) rfl dX6_trim_22 ?_
    refine J_iconst (by decide) dX6_trim_25 ?_
    refine J_sipush (by decide) (by decide) dX6_trim_26 ?_
    refine J_copy ml_RX6_30 (Or.inl rfl) (Or.inl rfl) K.1 K.2.1 K.2.2.1 (Nat.le_of_ble_eq_true rfl) dX6_trim_29 ?_
    replace K := K.2.2.2
    replace K := K _ rfl
    refine J_aload_n rfl dX6_trim_32 ?_
    refine J_bipush (by decide) (by decide) dX6_trim_33 ?_
    refine J_putI fl_RX6_15 rfl (Or.inl rfl) dX6_trim_35 ?_
    replace K := K _ rfl
    exact J_return rfl dX6_trim_38 K
  · replace K := K.2 c
    exact J_return rfl dX6_trim_12 K
set_option maxRecDepth 20000 in
set_option maxHeartbeats 2000000 in
theorem w_X6_backTo {d b : Nat} {Q : Option AV → AH → Prop} {h : AH} {x1 : Int}  (K : (x1 < 0 → Q (some (vI (-1))) h) ∧ (¬(x1 < 0) → (x1 < gi h 41 1 → R32 (x1 * 51) ∧ R32 ((x1 * 51) + 1) ∧ (0 ≤ (x1 * 51) + 1 ∧ (x1 * 51) + 1 < 13056) ∧ ∀ h1, h1 = si h 1 14 (gi h 42 ((x1 * 51) + 1)) → R32 ((x1 * 51) + 2) ∧ ((0 : Int) ≤ (x1 * 51) + 2 ∧ (0 : Int) ≤ 0 ∧ (0 : Int) ≤ 8) ∧ (((x1 * 51) + 2) : Int) + 8 ≤ 13056 ∧ (0 : Int) + 8 ≤ 8 ∧ ∀ h2, h2 = cpy h1 42 ((x1 * 51) + 2) 7 0 8 → R32 ((x1 * 51) + 2) ∧ R32 (((x1 * 51) + 2) + 8) ∧ ((0 : Int) ≤ ((x1 * 51) + 2) + 8 ∧ (0 : Int) ≤ 0 ∧ (0 : Int) ≤ 8) ∧ ((((x1 * 51) + 2) + 8) : Int) + 8 ≤ 13056 ∧ (0 : Int) + 8 ≤ 8 ∧ ∀ h3, h3 = cpy h2 42 (((x1 * 51) + 2) + 8) 8 0 8 → R32 ((x1 * 51) + 2) ∧ R32 (((x1 * 51) + 2) + 16) ∧ ((0 : Int) ≤ ((x1 * 51) + 2) + 16 ∧ (0 : Int) ≤ 0 ∧ (0 : Int) ≤ 8) ∧ ((((x1 * 51) + 2) + 16) : Int) + 8 ≤ 13056 ∧ (0 : Int) + 8 ≤ 8 ∧ ∀ h4, h4 = cpy h3 42 (((x1 * 51) + 2) + 16) 9 0 8 → R32 ((x1 * 51) + 2) ∧ R32 (((x1 * 51) + 2) + 24) ∧ ((0 : Int) ≤ ((x1 * 51) + 2) + 24 ∧ (0 : Int) ≤ 0 ∧ (0 : Int) ≤ 25) ∧ ((((x1 * 51) + 2) + 24) : Int) + 25 ≤ 13056 ∧ (0 : Int) + 25 ≤ 25 ∧ ∀ h5, h5 = cpy h4 42 (((x1 * 51) + 2) + 24) 10 0 25 → ∀ h6, h6 = si h5 41 1 x1 → (0 ≤ x1 * 51 ∧ x1 * 51 < 13056) ∧ Q (some (vI (gi h5 42 (x1 * 51)))) h6) ∧ (¬(x1 < gi h 41 1) → Q (some (vI (-1))) h))) : WM GX (d + 1) b mX6_backTo [vR (some 41), vI x1, vR (some 1)] h Q := by
  refine WM_introE (loc' := [some (vR (some 41)), some (vI x1), some (vR (some 1)), none]) rfl (by decide) (Nat.le_of_ble_eq_true rfl) ?_
  refine J_iload_n rfl dX6_backTo_0 ?_
  refine J_if_lt (tgt := 12) dX6_backTo_1 (by decide) (fun c => ?_) (fun c => ?_)
  · replace K := K.1 c
    refine J_iconst (by decide) dX6_backTo_12 ?_
    exact J_ireturn rfl dX6_backTo_13 K
  · replace K := K.2 c
    refine J_iload_n rfl dX6_backTo_4 ?_
    refine J_aload_n rfl dX6_backTo_5 ?_
    refine J_getI fl_RX6_15 rfl (Or.inl rfl) dX6_backTo_6 ?_
    refine J_icmp_lt (tgt := 14) dX6_backTo_9 (by decide) (fun c => ?_) (fun c => ?_)
    · replace K := K.1 c
      refine J_iload_n rfl dX6_backTo_14 ?_
      refine J_bipush (by decide) (by decide) dX6_backTo_15 ?_
      refine J_imul K.1 dX6_backTo_17 ?_
      replace K := K.2
      refine J_istore_n (loc' := [some (vR (some 41)), some (vI x1), some (vR (some 1)), some (vI (x1 * 51))]) (by decide) rfl dX6_backTo_18 ?_
      refine J_aload_n rfl dX6_backTo_19 ?_
      refine J_aload_n rfl dX6_backTo_20 ?_
      refine J_getS (r := 42) fl_RX6_11 rfl (Or.inl rfl) rfl dX6_backTo_21 ?_
      refine J_iload_n rfl dX6_backTo_24 ?_
      refine J_iconst (by decide) dX6_backTo_25 ?_
      refine J_iadd K.1 dX6_backTo_26 ?_
      replace K := K.2
      refine J_iaload (Or.inl rfl) K.1 dX6_backTo_27 ?_
      replace K := K.2
      refine J_putI fl_RX6_22 rfl (Or.inl rfl) dX6_backTo_28 ?_
      replace K := K _ rfl
      refine J_aload_n rfl dX6_backTo_31 ?_
      refine J_getS (r := 42) fl_RX6_11 rfl (Or.inl rfl) rfl dX6_backTo_32 ?_
      refine J_iload_n rfl dX6_backTo_35 ?_
      refine J_iconst (by decide) dX6_backTo_36 ?_
      refine J_iadd K.1 dX6_backTo_37 ?_
      replace K := K.2
      refine J_aload_n rfl dX6_backTo_38 ?_
      refine J_getS (r := 7) fl_RX6_27 rfl (Or.inl rfl) rfl dX6_backTo_39 ?_
      refine J_iconst (by decide) dX6_backTo_42 ?_
      refine J_bipush (by decide) (by decide) dX6_backTo_43 ?_
      refine J_copy ml_RX6_30 (Or.inl rfl) (Or.inl rfl) K.1 K.2.1 K.2.2.1 (Nat.le_of_ble_eq_true rfl) dX6_backTo_45 ?_
      replace K := K.2.2.2
      replace K := K _ rfl
      refine J_aload_n rfl dX6_backTo_48 ?_
      refine J_getS (r := 42) fl_RX6_11 rfl (Or.inl rfl) rfl dX6_backTo_49 ?_
      refine J_iload_n rfl dX6_backTo_52 ?_
      refine J_iconst (by decide) dX6_backTo_53 ?_
      refine J_iadd K.1 dX6_backTo_54 ?_
      replace K := K.2
      refine J_bipush (by decide) (by decide) dX6_backTo_55 ?_
      refine J_iadd K.1 dX6_backTo_57 ?_
      replace K := K.2
      refine J_aload_n rfl dX6_backTo_58 ?_
      refine J_getS (r := 8) fl_RX6_36 rfl (Or.inl rfl) rfl dX6_backTo_59 ?_
      refine J_iconst (by decide) dX6_backTo_62 ?_
      refine J_bipush (by decide) (by decide) dX6_backTo_63 ?_
      refine J_copy ml_RX6_30 (Or.inl rfl) (Or.inl rfl) K.1 K.2.1 K.2.2.1 (Nat.le_of_ble_eq_true rfl) dX6_backTo_65 ?_
      replace K := K.2.2.2
      replace K := K _ rfl
      refine J_aload_n rfl dX6_backTo_68 ?_
      refine J_getS (r := 42) fl_RX6_11 rfl (Or.inl rfl) rfl dX6_backTo_69 ?_
      refine J_iload_n rfl dX6_backTo_72 ?_
      refine J_iconst (by decide) dX6_backTo_73 ?_
      refine J_iadd K.1 dX6_backTo_74 ?_
      replace K := K.2
      refine J_bipush (by decide) (by decide) dX6_backTo_75 ?_
      refine J_iadd K.1 dX6_backTo_77 ?_
      replace K := K.2
      refine J_aload_n rfl dX6_backTo_78 ?_
      refine J_getS (r := 9) fl_RX6_39 rfl (Or.inl rfl) rfl dX6_backTo_79 ?_
      refine J_iconst (by decide) dX6_backTo_82 ?_
      refine J_bipush (by decide) (by decide) dX6_backTo_83 ?_
      refine J_copy ml_RX6_30 (Or.inl rfl) (Or.inl rfl) K.1 K.2.1 K.2.2.1 (Nat.le_of_ble_eq_true rfl) dX6_backTo_85 ?_
      replace K := K.2.2.2
      replace K := K _ rfl
      refine J_aload_n rfl dX6_backTo_88 ?_
      refine J_getS (r := 42) fl_RX6_11 rfl (Or.inl rfl) rfl dX6_backTo_89 ?_
      refine J_iload_n rfl dX6_backTo_92 ?_
      refine J_iconst (by decide) dX6_backTo_93 ?_
      refine J_iadd K.1 dX6_backTo_94 ?_
      replace K := K.2
      refine J_bipush (by decide) (by decide) dX6_backTo_95 ?_
      refine J_iadd K.1 dX6_backTo_97 ?_
      replace K := K.2
      refine J_aload_n rfl dX6_backTo_98 ?_
      refine J_getS (r := 10) fl_RX6_42 rfl (Or.inl rfl) rfl dX6_backTo_99 ?_
      refine J_iconst (by decide) dX6_backTo_102 ?_
      refine J_bipush (by decide) (by decide) dX6_backTo_103 ?_
      refine J_copy ml_RX6_30 (Or.inl rfl) (Or.inl rfl) K.1 K.2.1 K.2.2.1 (Nat.le_of_ble_eq_true rfl) dX6_backTo_105 ?_
      replace K := K.2.2.2
      replace K := K _ rfl
      refine J_aload_n rfl dX6_backTo_108 ?_
      refine J_iload_n rfl dX6_backTo_109 ?_
      refine J_putI fl_RX6_15 rfl (Or.inl rfl) dX6_backTo_110 ?_
      replace K := K _ rfl
      refine J_aload_n rfl dX6_backTo_113 ?_
      refine J_getS (r := 42) fl_RX6_11 rfl (Or.inl rfl) rfl dX6_backTo_114 ?_
      refine J_iload_n rfl dX6_backTo_117 ?_
      refine J_ialoade (Or.inl rfl) K.1 (gi_no (by decide)) dX6_backTo_118 ?_
      replace K := K.2
      exact J_ireturn rfl dX6_backTo_119 K
    · replace K := K.2 c
      refine J_iconst (by decide) dX6_backTo_12 ?_
      exact J_ireturn rfl dX6_backTo_13 K
set_option maxRecDepth 20000 in
set_option maxHeartbeats 2000000 in
theorem w_X8_in {d b : Nat} {Q : Option AV → AH → Prop} {h : AH} {x1 : Int} {x2 : Int} {x3 : Int}  (K : (x1 < x2 → Q (some (vI 0)) h) ∧ (¬(x1 < x2) → (x3 < x1 → Q (some (vI 0)) h) ∧ (¬(x3 < x1) → Q (some (vI 1)) h))) : WM GM d b mX8_in [vL x1, vL x2, vL x3] h Q := by
  refine WM_introE (loc' := [some (vL x1), none, some (vL x2), none, some (vL x3), none]) rfl (by decide) (Nat.le_of_ble_eq_true rfl) ?_
  refine J_lload_n rfl dX8_in_0 ?_
  refine J_lload_n rfl dX8_in_1 ?_
  refine J_lcmp dX8_in_2 ?_
  refine J_if_lt (tgt := 17) dX8_in_3 (by decide) (fun c => ?_) (fun c => ?_)
  · replace K := K.1 (zc_lt.mp c)
    refine J_iconst (by decide) dX8_in_17 ?_
    exact J_zreturn ⟨rfl, by decide⟩ dX8_in_18 K
  · replace K := K.2 (fun z => c (zc_lt.mpr z))
    refine J_lload_n rfl dX8_in_6 ?_
    refine J_lload rfl dX8_in_7 ?_
    refine J_lcmp dX8_in_9 ?_
    refine J_if_gt (tgt := 17) dX8_in_10 (by decide) (fun c => ?_) (fun c => ?_)
    · replace K := K.1 (zc_gt.mp c)
      refine J_iconst (by decide) dX8_in_17 ?_
      exact J_zreturn ⟨rfl, by decide⟩ dX8_in_18 K
    · replace K := K.2 (fun z => c (zc_gt.mpr z))
      refine J_iconst (by decide) dX8_in_13 ?_
      refine J_goto (tgt := 18) dX8_in_14 (by decide) ?_
      exact J_zreturn ⟨rfl, by decide⟩ dX8_in_18 K
set_option maxRecDepth 20000 in
set_option maxHeartbeats 2000000 in
theorem w_X8_is {d b : Nat} {Q : Option AV → AH → Prop} {h : AH} {x1 : Int} {x2 : Int}  (K : (zand (zshr x1 x2) 1 = 1 → Q (some (vI 1)) h) ∧ (¬(zand (zshr x1 x2) 1 = 1) → Q (some (vI 0)) h)) : WM GM d b mX8_is [vI x1, vI x2] h Q := by
  refine WM_introE (loc' := [some (vI x1), some (vI x2)]) rfl (by decide) (Nat.le_of_ble_eq_true rfl) ?_
  refine J_iload_n rfl dX8_is_0 ?_
  refine J_iload_n rfl dX8_is_1 ?_
  refine J_ishr dX8_is_2 ?_
  refine J_iconst (by decide) dX8_is_3 ?_
  refine J_iand dX8_is_4 ?_
  refine J_iconst (by decide) dX8_is_5 ?_
  refine J_icmp_ne (tgt := 13) dX8_is_6 (by decide) (fun c => ?_) (fun c => ?_)
  · replace K := K.2 c
    refine J_iconst (by decide) dX8_is_13 ?_
    exact J_zreturn ⟨rfl, by decide⟩ dX8_is_14 K
  · replace K := K.1 c
    refine J_iconst (by decide) dX8_is_9 ?_
    refine J_goto (tgt := 14) dX8_is_10 (by decide) ?_
    exact J_zreturn ⟨rfl, by decide⟩ dX8_is_14 K
def Lp_X8_ones_4 (d b : Nat) (Q : Option AV → AH → Prop)  (y0 : Int) (y1 : Int) (y2 : Int) (h : AH) : Prop := J GM d b mX8_ones Q 4 [some (vI y0), some (vI y1), some (vI y2)] [] h
set_option maxRecDepth 20000 in
set_option maxHeartbeats 2000000 in
theorem l_X8_ones_4 {d b : Nat} {Q : Option AV → AH → Prop} {h : AH}  {y0 : Int} {y1 : Int} {y2 : Int}  (K : (25 ≤ y2 → Q (some (vI y1)) h) ∧ (¬(25 ≤ y2) → R32 (y1 + (zand (zshr y0 y2) 1)) ∧ R32 (y2 + 1) ∧ Lp_X8_ones_4 d b Q y0 (y1 + (zand (zshr y0 y2) 1)) (y2 + 1) h)) : Lp_X8_ones_4 d b Q y0 y1 y2 h := by
  unfold Lp_X8_ones_4
  refine J_iload_n rfl dX8_ones_4 ?_
  refine J_bipush (by decide) (by decide) dX8_ones_5 ?_
  refine J_icmp_ge (tgt := 24) dX8_ones_7 (by decide) (fun c => ?_) (fun c => ?_)
  · replace K := K.1 c
    refine J_iload_n rfl dX8_ones_24 ?_
    exact J_ireturn rfl dX8_ones_25 K
  · replace K := K.2 c
    refine J_iload_n rfl dX8_ones_10 ?_
    refine J_iload_n rfl dX8_ones_11 ?_
    refine J_iload_n rfl dX8_ones_12 ?_
    refine J_ishr dX8_ones_13 ?_
    refine J_iconst (by decide) dX8_ones_14 ?_
    refine J_iand dX8_ones_15 ?_
    refine J_iadd K.1 dX8_ones_16 ?_
    replace K := K.2
    refine J_istore_n (loc' := [some (vI y0), some (vI (y1 + (zand (zshr y0 y2) 1))), some (vI y2)]) (by decide) rfl dX8_ones_17 ?_
    refine J_iinc (loc' := [some (vI y0), some (vI (y1 + (zand (zshr y0 y2) 1))), some (vI (y2 + 1))]) (by decide) rfl K.1 rfl dX8_ones_18 ?_
    replace K := K.2
    refine J_goto (tgt := 4) dX8_ones_21 (by decide) ?_
    exact J_forget (loc' := [some (vI y0), some (vI (y1 + (zand (zshr y0 y2) 1))), some (vI (y2 + 1))]) (And.intro (Or.inr rfl) (And.intro (Or.inr rfl) (And.intro (Or.inr rfl) True.intro))) K
set_option maxRecDepth 20000 in
set_option maxHeartbeats 2000000 in
theorem w_X8_ones {d b : Nat} {Q : Option AV → AH → Prop} {h : AH} {x1 : Int}  (K : Lp_X8_ones_4 d b Q x1 0 0 h) : WM GM d b mX8_ones [vI x1] h Q := by
  refine WM_introE (loc' := [some (vI x1), none, none]) rfl (by decide) (Nat.le_of_ble_eq_true rfl) ?_
  refine J_iconst (by decide) dX8_ones_0 ?_
  refine J_istore_n (loc' := [some (vI x1), some (vI 0), none]) (by decide) rfl dX8_ones_1 ?_
  refine J_iconst (by decide) dX8_ones_2 ?_
  refine J_istore_n (loc' := [some (vI x1), some (vI 0), some (vI 0)]) (by decide) rfl dX8_ones_3 ?_
  exact J_forget (loc' := [some (vI x1), some (vI 0), some (vI 0)]) (And.intro (Or.inr rfl) (And.intro (Or.inr rfl) (And.intro (Or.inr rfl) True.intro))) K
set_option maxRecDepth 20000 in
set_option maxHeartbeats 2000000 in
theorem w_X8_within {d b : Nat} {Q : Option AV → AH → Prop} {h : AH} {x1 : Int} {x2 : Int} {x3 : Int}  (K : (x2 ≤ x1 → (x1 ≤ x3 → Q (some (vI (zl2i x1))) h) ∧ (¬(x1 ≤ x3) → Q (some (vI x3)) h)) ∧ (¬(x2 ≤ x1) → Q (some (vI x2)) h)) : WM GM d b mX8_within [vL x1, vI x2, vI x3] h Q := by
  refine WM_introE (loc' := [some (vL x1), none, some (vI x2), some (vI x3)]) rfl (by decide) (Nat.le_of_ble_eq_true rfl) ?_
  refine J_lload_n rfl dX8_within_0 ?_
  refine J_iload_n rfl dX8_within_1 ?_
  refine J_i2l dX8_within_2 ?_
  refine J_lcmp dX8_within_3 ?_
  refine J_if_ge (tgt := 11) dX8_within_4 (by decide) (fun c => ?_) (fun c => ?_)
  · replace K := K.1 (zc_ge.mp c)
    refine J_lload_n rfl dX8_within_11 ?_
    refine J_iload_n rfl dX8_within_12 ?_
    refine J_i2l dX8_within_13 ?_
    refine J_lcmp dX8_within_14 ?_
    refine J_if_le (tgt := 22) dX8_within_15 (by decide) (fun c => ?_) (fun c => ?_)
    · replace K := K.1 (zc_le.mp c)
      refine J_lload_n rfl dX8_within_22 ?_
      refine J_l2i dX8_within_23 ?_
      exact J_ireturn rfl dX8_within_24 K
    · replace K := K.2 (fun z => c (zc_le.mpr z))
      refine J_iload_n rfl dX8_within_18 ?_
      refine J_goto (tgt := 24) dX8_within_19 (by decide) ?_
      exact J_ireturn rfl dX8_within_24 K
  · replace K := K.2 (fun z => c (zc_ge.mpr z))
    refine J_iload_n rfl dX8_within_7 ?_
    refine J_goto (tgt := 24) dX8_within_8 (by decide) ?_
    exact J_ireturn rfl dX8_within_24 K
set_option maxRecDepth 20000 in
set_option maxHeartbeats 2000000 in
theorem w_X8_tell {d b : Nat} {Q : Option AV → AH → Prop} {h : AH} {x1 : Int}  (K : (0 ≤ x1 → ∀ h1, h1 = si h 0 1 0 → (0 ≤ x1 → Q (some (vI x1)) h1) ∧ (¬(0 ≤ x1) → R32 (-x1) ∧ (0 ≤ -x1 ∧ -x1 < 7) ∧ R32 ((gi h 1 (-x1)) + 1) ∧ (0 ≤ -x1 ∧ -x1 < 7) ∧ ∀ h2, h2 = si h1 1 (-x1) ((gi h 1 (-x1)) + 1) → Q (some (vI x1)) h2)) ∧ (¬(0 ≤ x1) → ∀ h3, h3 = si h 0 1 x1 → (0 ≤ x1 → Q (some (vI x1)) h3) ∧ (¬(0 ≤ x1) → R32 (-x1) ∧ (0 ≤ -x1 ∧ -x1 < 7) ∧ R32 ((gi h 1 (-x1)) + 1) ∧ (0 ≤ -x1 ∧ -x1 < 7) ∧ ∀ h4, h4 = si h3 1 (-x1) ((gi h 1 (-x1)) + 1) → Q (some (vI x1)) h4))) : WM GM d b mX8_tell [vR (some 0), vI x1] h Q := by
  refine WM_introE (loc' := [some (vR (some 0)), some (vI x1)]) rfl (by decide) (Nat.le_of_ble_eq_true rfl) ?_
  refine J_aload_n rfl dX8_tell_0 ?_
  refine J_iload_n rfl dX8_tell_1 ?_
  refine J_if_ge (tgt := 9) dX8_tell_2 (by decide) (fun c => ?_) (fun c => ?_)
  · replace K := K.1 c
    refine J_iconst (by decide) dX8_tell_9 ?_
    refine J_putI fl_RX8_164 rfl (Or.inl rfl) dX8_tell_10 ?_
    replace K := K _ rfl
    refine J_iload_n rfl dX8_tell_13 ?_
    refine J_if_ge (tgt := 28) dX8_tell_14 (by decide) (fun c => ?_) (fun c => ?_)
    · replace K := K.1 c
      refine J_iload_n rfl dX8_tell_28 ?_
      exact J_ireturn rfl dX8_tell_29 K
    · replace K := K.2 c
      refine J_aload_n rfl dX8_tell_17 ?_
      refine J_getS (r := 1) fl_RX8_7 rfl (Or.inl rfl) rfl dX8_tell_18 ?_
      refine J_iload_n rfl dX8_tell_21 ?_
      refine J_ineg K.1 dX8_tell_22 ?_
      replace K := K.2
      refine J_dup2 rfl rfl dX8_tell_23 ?_
      refine J_ialoade (Or.inl rfl) K.1 (gi_no (by decide)) dX8_tell_24 ?_
      replace K := K.2
      refine J_iconst (by decide) dX8_tell_25 ?_
      refine J_iadd K.1 dX8_tell_26 ?_
      replace K := K.2
      refine J_iastore (Or.inl rfl) K.1 dX8_tell_27 ?_
      replace K := K.2
      replace K := K _ rfl
      refine J_iload_n rfl dX8_tell_28 ?_
      exact J_ireturn rfl dX8_tell_29 K
  · replace K := K.2 c
    refine J_iload_n rfl dX8_tell_5 ?_
    refine J_goto (tgt := 10) dX8_tell_6 (by decide) ?_
    refine J_putI fl_RX8_164 rfl (Or.inl rfl) dX8_tell_10 ?_
    replace K := K _ rfl
    refine J_iload_n rfl dX8_tell_13 ?_
    refine J_if_ge (tgt := 28) dX8_tell_14 (by decide) (fun c => ?_) (fun c => ?_)
    · replace K := K.1 c
      refine J_iload_n rfl dX8_tell_28 ?_
      exact J_ireturn rfl dX8_tell_29 K
    · replace K := K.2 c
      refine J_aload_n rfl dX8_tell_17 ?_
      refine J_getS (r := 1) fl_RX8_7 rfl (Or.inl rfl) rfl dX8_tell_18 ?_
      refine J_iload_n rfl dX8_tell_21 ?_
      refine J_ineg K.1 dX8_tell_22 ?_
      replace K := K.2
      refine J_dup2 rfl rfl dX8_tell_23 ?_
      refine J_ialoade (Or.inl rfl) K.1 (gi_no (by decide)) dX8_tell_24 ?_
      replace K := K.2
      refine J_iconst (by decide) dX8_tell_25 ?_
      refine J_iadd K.1 dX8_tell_26 ?_
      replace K := K.2
      refine J_iastore (Or.inl rfl) K.1 dX8_tell_27 ?_
      replace K := K.2
      replace K := K _ rfl
      refine J_iload_n rfl dX8_tell_28 ?_
      exact J_ireturn rfl dX8_tell_29 K
set_option maxRecDepth 20000 in
set_option maxHeartbeats 2000000 in
theorem w_X8_change {d b : Nat} {Q : Option AV → AH → Prop} {h : AH} {x1 : Int} {x2 : Int}  (K : (0 ≤ x1 ∧ x1 < 5540) ∧ (0 ≤ x1 ∧ x1 < 5540) ∧ ∀ h1, h1 = si h 2 x1 x2 → ∀ h2, h2 = si h1 0 1 0 → Q (some (vI (gi h 2 x1))) h2) : WM GM d b mX8_change [vR (some 0), vI x1, vI x2] h Q := by
  refine WM_introE (loc' := [some (vR (some 0)), some (vI x1), some (vI x2), none]) rfl (by decide) (Nat.le_of_ble_eq_true rfl) ?_
  refine J_aload_n rfl dX8_change_0 ?_
  refine J_getS (r := 2) fl_RX8_13 rfl (Or.inl rfl) rfl dX8_change_1 ?_
  refine J_iload_n rfl dX8_change_4 ?_
  refine J_iaload (Or.inl rfl) K.1 dX8_change_5 ?_
  replace K := K.2
  refine J_istore_n (loc' := [some (vR (some 0)), some (vI x1), some (vI x2), some (vI (gi h 2 x1))]) (by decide) rfl dX8_change_6 ?_
  refine J_aload_n rfl dX8_change_7 ?_
  refine J_getS (r := 2) fl_RX8_13 rfl (Or.inl rfl) rfl dX8_change_8 ?_
  refine J_iload_n rfl dX8_change_11 ?_
  refine J_iload_n rfl dX8_change_12 ?_
  refine J_iastore (Or.inl rfl) K.1 dX8_change_13 ?_
  replace K := K.2
  replace K := K _ rfl
  refine J_aload_n rfl dX8_change_14 ?_
  refine J_iconst (by decide) dX8_change_15 ?_
  refine J_putI fl_RX8_164 rfl (Or.inl rfl) dX8_change_16 ?_
  replace K := K _ rfl
  refine J_iload_n rfl dX8_change_19 ?_
  exact J_ireturn rfl dX8_change_20 K
def Lp_X8_keepAll_2 (d b : Nat) (Q : Option AV → AH → Prop)  (y1 : Int) (y2 : Int) (h : AH) : Prop := J GM d b mX8_keepAll Q 2 [some (vR (some 0)), some (vI y1), some (vI y2)] [] h
set_option maxRecDepth 20000 in
set_option maxHeartbeats 2000000 in
theorem l_X8_keepAll_2 {d b : Nat} {Q : Option AV → AH → Prop} {h : AH}  {y1 : Int} {y2 : Int}  (K : (59 ≤ y2 → Q none h) ∧ (¬(59 ≤ y2) → R32 (59 * y1) ∧ R32 ((59 * y1) + y2) ∧ R32 (5 + y2) ∧ (0 ≤ 5 + y2 ∧ 5 + y2 < 5540) ∧ (0 ≤ (59 * y1) + y2 ∧ (59 * y1) + y2 < 1062) ∧ ∀ h1, h1 = si h 5 ((59 * y1) + y2) (gi h 2 (5 + y2)) → R32 (y2 + 1) ∧ Lp_X8_keepAll_2 d b Q y1 (y2 + 1) h1)) : Lp_X8_keepAll_2 d b Q y1 y2 h := by
  unfold Lp_X8_keepAll_2
  refine J_iload_n rfl dX8_keepAll_2 ?_
  refine J_bipush (by decide) (by decide) dX8_keepAll_3 ?_
  refine J_icmp_ge (tgt := 33) dX8_keepAll_5 (by decide) (fun c => ?_) (fun c => ?_)
  · replace K := K.1 c
    exact J_return rfl dX8_keepAll_33 K
  · replace K := K.2 c
    refine J_aload_n rfl dX8_keepAll_8 ?_
    refine J_getS (r := 5) fl_RX8_23 rfl (Or.inl rfl) rfl dX8_keepAll_9 ?_
    refine J_bipush (by decide) (by decide) dX8_keepAll_12 ?_
    refine J_iload_n rfl dX8_keepAll_14 ?_
    refine J_imul K.1 dX8_keepAll_15 ?_
    replace K := K.2
    refine J_iload_n rfl dX8_keepAll_16 ?_
    refine J_iadd K.1 dX8_keepAll_17 ?_
    replace K := K.2
    refine J_aload_n rfl dX8_keepAll_18 ?_
    refine J_getS (r := 2) fl_RX8_13 rfl (Or.inl rfl) rfl dX8_keepAll_19 ?_
    refine J_iconst (by decide) dX8_keepAll_22 ?_
    refine J_iload_n rfl dX8_keepAll_23 ?_
    refine J_iadd K.1 dX8_keepAll_24 ?_
    replace K := K.2
    refine J_iaload (Or.inl rfl) K.1 dX8_keepAll_25 ?_
    replace K := K.2
    refine J_iastore (Or.inl rfl) K.1 dX8_keepAll_26 ?_
    replace K := K.2
    replace K := K _ rfl
    refine J_iinc (loc' := [some (vR (some 0)), some (vI y1), some (vI (y2 + 1))]) (by decide) rfl K.1 rfl dX8_keepAll_27 ?_
    replace K := K.2
    refine J_goto (tgt := 2) dX8_keepAll_30 (by decide) ?_
    exact J_forget (loc' := [some (vR (some 0)), some (vI y1), some (vI (y2 + 1))]) (And.intro (Or.inr rfl) (And.intro (Or.inr rfl) (And.intro (Or.inr rfl) True.intro))) K
set_option maxRecDepth 20000 in
set_option maxHeartbeats 2000000 in
theorem w_X8_keepAll {d b : Nat} {Q : Option AV → AH → Prop} {h : AH} {x1 : Int}  (K : Lp_X8_keepAll_2 d b Q x1 0 h) : WM GM d b mX8_keepAll [vR (some 0), vI x1] h Q := by
  refine WM_introE (loc' := [some (vR (some 0)), some (vI x1), none]) rfl (by decide) (Nat.le_of_ble_eq_true rfl) ?_
  refine J_iconst (by decide) dX8_keepAll_0 ?_
  refine J_istore_n (loc' := [some (vR (some 0)), some (vI x1), some (vI 0)]) (by decide) rfl dX8_keepAll_1 ?_
  exact J_forget (loc' := [some (vR (some 0)), some (vI x1), some (vI 0)]) (And.intro (Or.inr rfl) (And.intro (Or.inr rfl) (And.intro (Or.inr rfl) True.intro))) K
def Lp_X8_putBack_2 (d b : Nat) (Q : Option AV → AH → Prop)  (y1 : Int) (y2 : Int) (h : AH) : Prop := J GM d b mX8_putBack Q 2 [some (vR (some 0)), some (vI y1), some (vI y2)] [] h
set_option maxRecDepth 20000 in
set_option maxHeartbeats 2000000 in
theorem l_X8_putBack_2 {d b : Nat} {Q : Option AV → AH → Prop} {h : AH}  {y1 : Int} {y2 : Int}  (K : (59 ≤ y2 → Q none h) ∧ (¬(59 ≤ y2) → R32 (5 + y2) ∧ R32 (59 * y1) ∧ R32 ((59 * y1) + y2) ∧ (0 ≤ (59 * y1) + y2 ∧ (59 * y1) + y2 < 1062) ∧ (0 ≤ 5 + y2 ∧ 5 + y2 < 5540) ∧ ∀ h1, h1 = si h 2 (5 + y2) (gi h 5 ((59 * y1) + y2)) → R32 (y2 + 1) ∧ Lp_X8_putBack_2 d b Q y1 (y2 + 1) h1)) : Lp_X8_putBack_2 d b Q y1 y2 h := by
  unfold Lp_X8_putBack_2
  refine J_iload_n rfl dX8_putBack_2 ?_
  refine J_bipush (by decide) (by decide) dX8_putBack_3 ?_
  refine J_icmp_ge (tgt := 33) dX8_putBack_5 (by decide) (fun c => ?_) (fun c => ?_)
  · replace K := K.1 c
    exact J_return rfl dX8_putBack_33 K
  · replace K := K.2 c
    refine J_aload_n rfl dX8_putBack_8 ?_
    refine J_getS (r := 2) fl_RX8_13 rfl (Or.inl rfl) rfl dX8_putBack_9 ?_
    refine J_iconst (by decide) dX8_putBack_12 ?_
    refine J_iload_n rfl dX8_putBack_13 ?_
    refine J_iadd K.1 dX8_putBack_14 ?_
    replace K := K.2
    refine J_aload_n rfl dX8_putBack_15 ?_
    refine J_getS (r := 5) fl_RX8_23 rfl (Or.inl rfl) rfl dX8_putBack_16 ?_
    refine J_bipush (by decide) (by decide) dX8_putBack_19 ?_
    refine J_iload_n rfl dX8_putBack_21 ?_
    refine J_imul K.1 dX8_putBack_22 ?_
    replace K := K.2
    refine J_iload_n rfl dX8_putBack_23 ?_
    refine J_iadd K.1 dX8_putBack_24 ?_
    replace K := K.2
    refine J_iaload (Or.inl rfl) K.1 dX8_putBack_25 ?_
    replace K := K.2
    refine J_iastore (Or.inl rfl) K.1 dX8_putBack_26 ?_
    replace K := K.2
    replace K := K _ rfl
    refine J_iinc (loc' := [some (vR (some 0)), some (vI y1), some (vI (y2 + 1))]) (by decide) rfl K.1 rfl dX8_putBack_27 ?_
    replace K := K.2
    refine J_goto (tgt := 2) dX8_putBack_30 (by decide) ?_
    exact J_forget (loc' := [some (vR (some 0)), some (vI y1), some (vI (y2 + 1))]) (And.intro (Or.inr rfl) (And.intro (Or.inr rfl) (And.intro (Or.inr rfl) True.intro))) K
set_option maxRecDepth 20000 in
set_option maxHeartbeats 2000000 in
theorem w_X8_putBack {d b : Nat} {Q : Option AV → AH → Prop} {h : AH} {x1 : Int}  (K : Lp_X8_putBack_2 d b Q x1 0 h) : WM GM d b mX8_putBack [vR (some 0), vI x1] h Q := by
  refine WM_introE (loc' := [some (vR (some 0)), some (vI x1), none]) rfl (by decide) (Nat.le_of_ble_eq_true rfl) ?_
  refine J_iconst (by decide) dX8_putBack_0 ?_
  refine J_istore_n (loc' := [some (vR (some 0)), some (vI x1), some (vI 0)]) (by decide) rfl dX8_putBack_1 ?_
  exact J_forget (loc' := [some (vR (some 0)), some (vI x1), some (vI 0)]) (And.intro (Or.inr rfl) (And.intro (Or.inr rfl) (And.intro (Or.inr rfl) True.intro))) K
set_option maxRecDepth 20000 in
set_option maxHeartbeats 2000000 in
theorem w_X8_isAtSea {d b : Nat} {Q : Option AV → AH → Prop} {h : AH} {x1 : Int}  (K : R32 (15 + x1) ∧ (0 ≤ 15 + x1 ∧ 15 + x1 < 5540) ∧ (gi h 2 (15 + x1) = (-1) → Q (some (vI 0)) h) ∧ (¬(gi h 2 (15 + x1) = (-1)) → Q (some (vI 1)) h)) : WM GM d b mX8_isAtSea [vR (some 0), vI x1] h Q := by
  refine WM_introE (loc' := [some (vR (some 0)), some (vI x1)]) rfl (by decide) (Nat.le_of_ble_eq_true rfl) ?_
  refine J_aload_n rfl dX8_isAtSea_0 ?_
  refine J_getS (r := 2) fl_RX8_13 rfl (Or.inl rfl) rfl dX8_isAtSea_1 ?_
  refine J_bipush (by decide) (by decide) dX8_isAtSea_4 ?_
  refine J_iload_n rfl dX8_isAtSea_6 ?_
  refine J_iadd K.1 dX8_isAtSea_7 ?_
  replace K := K.2
  refine J_iaload (Or.inl rfl) K.1 dX8_isAtSea_8 ?_
  replace K := K.2
  refine J_iconst (by decide) dX8_isAtSea_9 ?_
  refine J_icmp_eq (tgt := 17) dX8_isAtSea_10 (by decide) (fun c => ?_) (fun c => ?_)
  · replace K := K.1 c
    refine J_iconst (by decide) dX8_isAtSea_17 ?_
    exact J_zreturn ⟨rfl, by decide⟩ dX8_isAtSea_18 K
  · replace K := K.2 c
    refine J_iconst (by decide) dX8_isAtSea_13 ?_
    refine J_goto (tgt := 18) dX8_isAtSea_14 (by decide) ?_
    exact J_zreturn ⟨rfl, by decide⟩ dX8_isAtSea_18 K
def Lp_X8_doorOf_4 (d b : Nat) (Q : Option AV → AH → Prop)  (y1 : Int) (y2 : Int) (y3 : Int) (h : AH) : Prop := J GM d b mX8_doorOf Q 4 [some (vR (some 0)), some (vI y1), some (vI y2), some (vI y3)] [] h
set_option maxRecDepth 20000 in
set_option maxHeartbeats 2000000 in
theorem l_X8_doorOf_4 {d b : Nat} {Q : Option AV → AH → Prop} {h : AH}  {y1 : Int} {y2 : Int} {y3 : Int}  (K : (gi h 2 1 ≤ y3 → Q (some (vI y2)) h) ∧ (¬(gi h 2 1 ≤ y3) → R32 (7 + y3) ∧ (0 ≤ 7 + y3 ∧ 7 + y3 < 5540) ∧ (gi h 2 (7 + y3) = y1 → R32 (y3 + 1) ∧ Lp_X8_doorOf_4 d b Q y1 y3 (y3 + 1) h) ∧ (¬(gi h 2 (7 + y3) = y1) → R32 (y3 + 1) ∧ Lp_X8_doorOf_4 d b Q y1 y2 (y3 + 1) h))) : Lp_X8_doorOf_4 d b Q y1 y2 y3 h := by
  unfold Lp_X8_doorOf_4
  refine J_iload_n rfl dX8_doorOf_4 ?_
  refine J_aload_n rfl dX8_doorOf_5 ?_
  refine J_getS (r := 2) fl_RX8_13 rfl (Or.inl rfl) rfl dX8_doorOf_6 ?_
  refine J_iconst (by decide) dX8_doorOf_9 ?_
  refine J_iaload (Or.inl rfl) (by decide) dX8_doorOf_10 ?_
  refine J_icmp_ge (tgt := 39) dX8_doorOf_11 (by decide) (fun c => ?_) (fun c => ?_)
  · replace K := K.1 c
    refine J_iload_n rfl dX8_doorOf_39 ?_
    exact J_ireturn rfl dX8_doorOf_40 K
  · replace K := K.2 c
    refine J_aload_n rfl dX8_doorOf_14 ?_
    refine J_getS (r := 2) fl_RX8_13 rfl (Or.inl rfl) rfl dX8_doorOf_15 ?_
    refine J_bipush (by decide) (by decide) dX8_doorOf_18 ?_
    refine J_iload_n rfl dX8_doorOf_20 ?_
    refine J_iadd K.1 dX8_doorOf_21 ?_
    replace K := K.2
    refine J_iaload (Or.inl rfl) K.1 dX8_doorOf_22 ?_
    replace K := K.2
    refine J_iload_n rfl dX8_doorOf_23 ?_
    refine J_icmp_ne (tgt := 31) dX8_doorOf_24 (by decide) (fun c => ?_) (fun c => ?_)
    · replace K := K.2 c
      refine J_iload_n rfl dX8_doorOf_31 ?_
      refine J_istore_n (loc' := [some (vR (some 0)), some (vI y1), some (vI y2), some (vI y3)]) (by decide) rfl dX8_doorOf_32 ?_
      refine J_iinc (loc' := [some (vR (some 0)), some (vI y1), some (vI y2), some (vI (y3 + 1))]) (by decide) rfl K.1 rfl dX8_doorOf_33 ?_
      replace K := K.2
      refine J_goto (tgt := 4) dX8_doorOf_36 (by decide) ?_
      exact J_forget (loc' := [some (vR (some 0)), some (vI y1), some (vI y2), some (vI (y3 + 1))]) (And.intro (Or.inr rfl) (And.intro (Or.inr rfl) (And.intro (Or.inr rfl) (And.intro (Or.inr rfl) True.intro)))) K
    · replace K := K.1 c
      refine J_iload_n rfl dX8_doorOf_27 ?_
      refine J_goto (tgt := 32) dX8_doorOf_28 (by decide) ?_
      refine J_istore_n (loc' := [some (vR (some 0)), some (vI y1), some (vI y3), some (vI y3)]) (by decide) rfl dX8_doorOf_32 ?_
      refine J_iinc (loc' := [some (vR (some 0)), some (vI y1), some (vI y3), some (vI (y3 + 1))]) (by decide) rfl K.1 rfl dX8_doorOf_33 ?_
      replace K := K.2
      refine J_goto (tgt := 4) dX8_doorOf_36 (by decide) ?_
      exact J_forget (loc' := [some (vR (some 0)), some (vI y1), some (vI y3), some (vI (y3 + 1))]) (And.intro (Or.inr rfl) (And.intro (Or.inr rfl) (And.intro (Or.inr rfl) (And.intro (Or.inr rfl) True.intro)))) K
set_option maxRecDepth 20000 in
set_option maxHeartbeats 2000000 in
theorem w_X8_doorOf {d b : Nat} {Q : Option AV → AH → Prop} {h : AH} {x1 : Int}  (K : Lp_X8_doorOf_4 d b Q x1 (-1) 0 h) : WM GM d b mX8_doorOf [vR (some 0), vI x1] h Q := by
  refine WM_introE (loc' := [some (vR (some 0)), some (vI x1), none, none]) rfl (by decide) (Nat.le_of_ble_eq_true rfl) ?_
  refine J_iconst (by decide) dX8_doorOf_0 ?_
  refine J_istore_n (loc' := [some (vR (some 0)), some (vI x1), some (vI (-1)), none]) (by decide) rfl dX8_doorOf_1 ?_
  refine J_iconst (by decide) dX8_doorOf_2 ?_
  refine J_istore_n (loc' := [some (vR (some 0)), some (vI x1), some (vI (-1)), some (vI 0)]) (by decide) rfl dX8_doorOf_3 ?_
  exact J_forget (loc' := [some (vR (some 0)), some (vI x1), some (vI (-1)), some (vI 0)]) (And.intro (Or.inr rfl) (And.intro (Or.inr rfl) (And.intro (Or.inr rfl) (And.intro (Or.inr rfl) True.intro)))) K
set_option maxRecDepth 20000 in
set_option maxHeartbeats 2000000 in
theorem w_X8_cellBy {d b : Nat} {Q : Option AV → AH → Prop} {h : AH} {x1 : Int} {x2 : Int}  (K : (x2 = 1 → (5 ≤ x1 → R32 (x1 - 5) ∧ Q (some (vI (x1 - 5))) h) ∧ (¬(5 ≤ x1) → Q (some (vI (-1))) h)) ∧ (¬(x2 = 1) → (x2 = 2 → R32 (Int.tmod x1 5) ∧ (Int.tmod x1 5 = 4 → Q (some (vI (-1))) h) ∧ (¬(Int.tmod x1 5 = 4) → R32 (x1 + 1) ∧ Q (some (vI (x1 + 1))) h)) ∧ (¬(x2 = 2) → (x2 = 3 → (x1 ≤ 19 → R32 (x1 + 5) ∧ Q (some (vI (x1 + 5))) h) ∧ (¬(x1 ≤ 19) → Q (some (vI (-1))) h)) ∧ (¬(x2 = 3) → (x2 = 4 → R32 (Int.tmod x1 5) ∧ (Int.tmod x1 5 = 0 → Q (some (vI (-1))) h) ∧ (¬(Int.tmod x1 5 = 0) → R32 (x1 - 1) ∧ Q (some (vI (x1 - 1))) h)) ∧ (¬(x2 = 4) → Q (some (vI x1)) h))))) : WM GM d b mX8_cellBy [vI x1, vI x2] h Q := by
  refine WM_introE (loc' := [some (vI x1), some (vI x2)]) rfl (by decide) (Nat.le_of_ble_eq_true rfl) ?_
  refine J_iload_n rfl dX8_cellBy_0 ?_
  by_cases c : x2 = 1
  · replace K := K.1 c
    refine J_tsIn (tgt := 32) 1 c (by decide) (by decide) rfl dX8_cellBy_1 (by decide) ?_
    refine J_iload_n rfl dX8_cellBy_32 ?_
    refine J_iconst (by decide) dX8_cellBy_33 ?_
    refine J_icmp_ge (tgt := 41) dX8_cellBy_34 (by decide) (fun c => ?_) (fun c => ?_)
    · replace K := K.1 c
      refine J_iload_n rfl dX8_cellBy_41 ?_
      refine J_iconst (by decide) dX8_cellBy_42 ?_
      refine J_isub K.1 dX8_cellBy_43 ?_
      replace K := K.2
      exact J_ireturn rfl dX8_cellBy_44 K
    · replace K := K.2 c
      refine J_iconst (by decide) dX8_cellBy_37 ?_
      refine J_goto (tgt := 44) dX8_cellBy_38 (by decide) ?_
      exact J_ireturn rfl dX8_cellBy_44 K
  replace K := K.2 c
  have cc1 := c
  clear c
  by_cases c : x2 = 2
  · replace K := K.1 c
    refine J_tsIn (tgt := 45) 2 c (by decide) (by decide) rfl dX8_cellBy_1 (by decide) ?_
    refine J_iload_n rfl dX8_cellBy_45 ?_
    refine J_iconst (by decide) dX8_cellBy_46 ?_
    refine J_irem (by decide) K.1 dX8_cellBy_47 ?_
    replace K := K.2
    refine J_iconst (by decide) dX8_cellBy_48 ?_
    refine J_icmp_ne (tgt := 56) dX8_cellBy_49 (by decide) (fun c => ?_) (fun c => ?_)
    · replace K := K.2 c
      refine J_iload_n rfl dX8_cellBy_56 ?_
      refine J_iconst (by decide) dX8_cellBy_57 ?_
      refine J_iadd K.1 dX8_cellBy_58 ?_
      replace K := K.2
      exact J_ireturn rfl dX8_cellBy_59 K
    · replace K := K.1 c
      refine J_iconst (by decide) dX8_cellBy_52 ?_
      refine J_goto (tgt := 59) dX8_cellBy_53 (by decide) ?_
      exact J_ireturn rfl dX8_cellBy_59 K
  replace K := K.2 c
  have cc2 := c
  clear c
  by_cases c : x2 = 3
  · replace K := K.1 c
    refine J_tsIn (tgt := 60) 3 c (by decide) (by decide) rfl dX8_cellBy_1 (by decide) ?_
    refine J_iload_n rfl dX8_cellBy_60 ?_
    refine J_bipush (by decide) (by decide) dX8_cellBy_61 ?_
    refine J_icmp_le (tgt := 70) dX8_cellBy_63 (by decide) (fun c => ?_) (fun c => ?_)
    · replace K := K.1 c
      refine J_iload_n rfl dX8_cellBy_70 ?_
      refine J_iconst (by decide) dX8_cellBy_71 ?_
      refine J_iadd K.1 dX8_cellBy_72 ?_
      replace K := K.2
      exact J_ireturn rfl dX8_cellBy_73 K
    · replace K := K.2 c
      refine J_iconst (by decide) dX8_cellBy_66 ?_
      refine J_goto (tgt := 73) dX8_cellBy_67 (by decide) ?_
      exact J_ireturn rfl dX8_cellBy_73 K
  replace K := K.2 c
  have cc3 := c
  clear c
  by_cases c : x2 = 4
  · replace K := K.1 c
    refine J_tsIn (tgt := 74) 4 c (by decide) (by decide) rfl dX8_cellBy_1 (by decide) ?_
    refine J_iload_n rfl dX8_cellBy_74 ?_
    refine J_iconst (by decide) dX8_cellBy_75 ?_
    refine J_irem (by decide) K.1 dX8_cellBy_76 ?_
    replace K := K.2
    refine J_if_ne (tgt := 84) dX8_cellBy_77 (by decide) (fun c => ?_) (fun c => ?_)
    · replace K := K.2 c
      refine J_iload_n rfl dX8_cellBy_84 ?_
      refine J_iconst (by decide) dX8_cellBy_85 ?_
      refine J_isub K.1 dX8_cellBy_86 ?_
      replace K := K.2
      exact J_ireturn rfl dX8_cellBy_87 K
    · replace K := K.1 c
      refine J_iconst (by decide) dX8_cellBy_80 ?_
      refine J_goto (tgt := 87) dX8_cellBy_81 (by decide) ?_
      exact J_ireturn rfl dX8_cellBy_87 K
  replace K := K.2 c
  have cc4 := c
  clear c
  refine J_tsOut (tgt := 88) (by omega) dX8_cellBy_1 (by decide) ?_
  refine J_iload_n rfl dX8_cellBy_88 ?_
  exact J_ireturn rfl dX8_cellBy_89 K
set_option maxRecDepth 20000 in
set_option maxHeartbeats 2000000 in
theorem w_X8_foam {d b : Nat} {Q : Option AV → AH → Prop} {h : AH}   (K : ∀ h1, h1 = si h 0 0 0 → Q (some (vI (gi h 0 11))) h1) : WM GM d b mX8_foam [vR (some 0)] h Q := by
  refine WM_introE (loc' := [some (vR (some 0))]) rfl (by decide) (Nat.le_of_ble_eq_true rfl) ?_
  refine J_aload_n rfl dX8_foam_0 ?_
  refine J_iconst (by decide) dX8_foam_1 ?_
  refine J_putI fl_RX8_161 rfl (Or.inl rfl) dX8_foam_2 ?_
  replace K := K _ rfl
  refine J_aload_n rfl dX8_foam_5 ?_
  refine J_getIe fl_RX8_241 rfl (Or.inl rfl) (gi_nk (by decide)) dX8_foam_6 ?_
  exact J_ireturn rfl dX8_foam_9 K
def Lp_X8_four_3 (d b : Nat) (Q : Option AV → AH → Prop)  (y1 : Int) (y2 : Int) (h : AH) : Prop := J GM d b mX8_four Q 3 [some (vR (some 0)), some (vI y1), some (vI y2)] [] h
set_option maxRecDepth 20000 in
set_option maxHeartbeats 2000000 in
theorem l_X8_four_3 {d b : Nat} {Q : Option AV → AH → Prop} {h : AH}  {y1 : Int} {y2 : Int}  (K : (y2 < 0 → Q none h) ∧ (¬(y2 < 0) → (0 ≤ gi h 0 13 ∧ gi h 0 13 < 400) ∧ ∀ h1, h1 = si h 9 (gi h 0 13) (zand (zshr y1 y2) 255) → R32 ((gi h 0 13) + 1) ∧ ∀ h2, h2 = si h1 0 13 ((gi h 0 13) + 1) → R32 (y2 + (-8)) ∧ Lp_X8_four_3 d b Q y1 (y2 + (-8)) h2)) : Lp_X8_four_3 d b Q y1 y2 h := by
  unfold Lp_X8_four_3
  refine J_iload_n rfl dX8_four_3 ?_
  refine J_if_lt (tgt := 39) dX8_four_4 (by decide) (fun c => ?_) (fun c => ?_)
  · replace K := K.1 c
    exact J_return rfl dX8_four_39 K
  · replace K := K.2 c
    refine J_aload_n rfl dX8_four_7 ?_
    refine J_getS (r := 9) fl_RX8_35 rfl (Or.inl rfl) rfl dX8_four_8 ?_
    refine J_aload_n rfl dX8_four_11 ?_
    refine J_getI fl_RX8_238 rfl (Or.inl rfl) dX8_four_12 ?_
    refine J_iload_n rfl dX8_four_15 ?_
    refine J_iload_n rfl dX8_four_16 ?_
    refine J_ishr dX8_four_17 ?_
    refine J_sipush (by decide) (by decide) dX8_four_18 ?_
    refine J_iand dX8_four_21 ?_
    refine J_iastore (Or.inl rfl) K.1 dX8_four_22 ?_
    replace K := K.2
    replace K := K _ rfl
    refine J_aload_n rfl dX8_four_23 ?_
    refine J_dup rfl dX8_four_24 ?_
    refine J_getIe fl_RX8_238 rfl (Or.inl rfl) (gi_no (by decide)) dX8_four_25 ?_
    refine J_iconst (by decide) dX8_four_28 ?_
    refine J_iadd K.1 dX8_four_29 ?_
    replace K := K.2
    refine J_putI fl_RX8_238 rfl (Or.inl rfl) dX8_four_30 ?_
    replace K := K _ rfl
    refine J_iinc (loc' := [some (vR (some 0)), some (vI y1), some (vI (y2 + (-8)))]) (by decide) rfl K.1 rfl dX8_four_33 ?_
    replace K := K.2
    refine J_goto (tgt := 3) dX8_four_36 (by decide) ?_
    exact J_forget (loc' := [some (vR (some 0)), some (vI y1), some (vI (y2 + (-8)))]) (And.intro (Or.inr rfl) (And.intro (Or.inr rfl) (And.intro (Or.inr rfl) True.intro))) K
set_option maxRecDepth 20000 in
set_option maxHeartbeats 2000000 in
theorem w_X8_four {d b : Nat} {Q : Option AV → AH → Prop} {h : AH} {x1 : Int}  (K : Lp_X8_four_3 d b Q x1 24 h) : WM GM d b mX8_four [vR (some 0), vI x1] h Q := by
  refine WM_introE (loc' := [some (vR (some 0)), some (vI x1), none]) rfl (by decide) (Nat.le_of_ble_eq_true rfl) ?_
  refine J_bipush (by decide) (by decide) dX8_four_0 ?_
  refine J_istore_n (loc' := [some (vR (some 0)), some (vI x1), some (vI 24)]) (by decide) rfl dX8_four_2 ?_
  exact J_forget (loc' := [some (vR (some 0)), some (vI x1), some (vI 24)]) (And.intro (Or.inr rfl) (And.intro (Or.inr rfl) (And.intro (Or.inr rfl) True.intro))) K
set_option maxRecDepth 20000 in
set_option maxHeartbeats 2000000 in
theorem w_X8_isSmall {d b : Nat} {Q : Option AV → AH → Prop} {h : AH} {x1 : Int}  (K : (x1 < 97 → Q (some (vI 0)) h) ∧ (¬(x1 < 97) → (122 < x1 → Q (some (vI 0)) h) ∧ (¬(122 < x1) → Q (some (vI 1)) h))) : WM GM d b mX8_isSmall [vI x1] h Q := by
  refine WM_introE (loc' := [some (vI x1)]) rfl (by decide) (Nat.le_of_ble_eq_true rfl) ?_
  refine J_iload_n rfl dX8_isSmall_0 ?_
  refine J_bipush (by decide) (by decide) dX8_isSmall_1 ?_
  refine J_icmp_lt (tgt := 16) dX8_isSmall_3 (by decide) (fun c => ?_) (fun c => ?_)
  · replace K := K.1 c
    refine J_iconst (by decide) dX8_isSmall_16 ?_
    exact J_zreturn ⟨rfl, by decide⟩ dX8_isSmall_17 K
  · replace K := K.2 c
    refine J_iload_n rfl dX8_isSmall_6 ?_
    refine J_bipush (by decide) (by decide) dX8_isSmall_7 ?_
    refine J_icmp_gt (tgt := 16) dX8_isSmall_9 (by decide) (fun c => ?_) (fun c => ?_)
    · replace K := K.1 c
      refine J_iconst (by decide) dX8_isSmall_16 ?_
      exact J_zreturn ⟨rfl, by decide⟩ dX8_isSmall_17 K
    · replace K := K.2 c
      refine J_iconst (by decide) dX8_isSmall_12 ?_
      refine J_goto (tgt := 17) dX8_isSmall_13 (by decide) ?_
      exact J_zreturn ⟨rfl, by decide⟩ dX8_isSmall_17 K
set_option maxRecDepth 20000 in
set_option maxHeartbeats 2000000 in
theorem w_X8_isDigit {d b : Nat} {Q : Option AV → AH → Prop} {h : AH} {x1 : Int}  (K : (x1 < 48 → Q (some (vI 0)) h) ∧ (¬(x1 < 48) → (57 < x1 → Q (some (vI 0)) h) ∧ (¬(57 < x1) → Q (some (vI 1)) h))) : WM GM d b mX8_isDigit [vI x1] h Q := by
  refine WM_introE (loc' := [some (vI x1)]) rfl (by decide) (Nat.le_of_ble_eq_true rfl) ?_
  refine J_iload_n rfl dX8_isDigit_0 ?_
  refine J_bipush (by decide) (by decide) dX8_isDigit_1 ?_
  refine J_icmp_lt (tgt := 16) dX8_isDigit_3 (by decide) (fun c => ?_) (fun c => ?_)
  · replace K := K.1 c
    refine J_iconst (by decide) dX8_isDigit_16 ?_
    exact J_zreturn ⟨rfl, by decide⟩ dX8_isDigit_17 K
  · replace K := K.2 c
    refine J_iload_n rfl dX8_isDigit_6 ?_
    refine J_bipush (by decide) (by decide) dX8_isDigit_7 ?_
    refine J_icmp_gt (tgt := 16) dX8_isDigit_9 (by decide) (fun c => ?_) (fun c => ?_)
    · replace K := K.1 c
      refine J_iconst (by decide) dX8_isDigit_16 ?_
      exact J_zreturn ⟨rfl, by decide⟩ dX8_isDigit_17 K
    · replace K := K.2 c
      refine J_iconst (by decide) dX8_isDigit_12 ?_
      refine J_goto (tgt := 17) dX8_isDigit_13 (by decide) ?_
      exact J_zreturn ⟨rfl, by decide⟩ dX8_isDigit_17 K
set_option maxRecDepth 20000 in
set_option maxHeartbeats 2000000 in
theorem w_X8_lose {d b : Nat} {Q : Option AV → AH → Prop} {h : AH} {x1 : Int}  (K : R32 (15 + x1) ∧ (0 ≤ 15 + x1 ∧ 15 + x1 < 5540) ∧ ∀ h1, h1 = si h 2 (15 + x1) (-1) → R32 (31 + x1) ∧ (0 ≤ 31 + x1 ∧ 31 + x1 < 5540) ∧ ∀ h2, h2 = si h1 2 (31 + x1) 1 → Q none h2) : WM GM d b mX8_lose [vR (some 0), vI x1] h Q := by
  refine WM_introE (loc' := [some (vR (some 0)), some (vI x1)]) rfl (by decide) (Nat.le_of_ble_eq_true rfl) ?_
  refine J_aload_n rfl dX8_lose_0 ?_
  refine J_getS (r := 2) fl_RX8_13 rfl (Or.inl rfl) rfl dX8_lose_1 ?_
  refine J_bipush (by decide) (by decide) dX8_lose_4 ?_
  refine J_iload_n rfl dX8_lose_6 ?_
  refine J_iadd K.1 dX8_lose_7 ?_
  replace K := K.2
  refine J_iconst (by decide) dX8_lose_8 ?_
  refine J_iastore (Or.inl rfl) K.1 dX8_lose_9 ?_
  replace K := K.2
  replace K := K _ rfl
  refine J_aload_n rfl dX8_lose_10 ?_
  refine J_getS (r := 2) fl_RX8_13 rfl (Or.inl rfl) rfl dX8_lose_11 ?_
  refine J_bipush (by decide) (by decide) dX8_lose_14 ?_
  refine J_iload_n rfl dX8_lose_16 ?_
  refine J_iadd K.1 dX8_lose_17 ?_
  replace K := K.2
  refine J_iconst (by decide) dX8_lose_18 ?_
  refine J_iastore (Or.inl rfl) K.1 dX8_lose_19 ?_
  replace K := K.2
  replace K := K _ rfl
  exact J_return rfl dX8_lose_20 K
set_option maxRecDepth 20000 in
set_option maxHeartbeats 2000000 in
theorem w_X8_steps {d b : Nat} {Q : Option AV → AH → Prop} {h : AH} {x1 : Int} {x2 : Int}  (K : R32 (Int.tmod x1 5) ∧ R32 (Int.tmod x2 5) ∧ R32 ((Int.tmod x1 5) - (Int.tmod x2 5)) ∧ R32 (Int.tdiv x1 5) ∧ R32 (Int.tdiv x2 5) ∧ R32 ((Int.tdiv x1 5) - (Int.tdiv x2 5)) ∧ (0 ≤ (Int.tmod x1 5) - (Int.tmod x2 5) → (0 ≤ (Int.tdiv x1 5) - (Int.tdiv x2 5) → R32 (((Int.tmod x1 5) - (Int.tmod x2 5)) + ((Int.tdiv x1 5) - (Int.tdiv x2 5))) ∧ Q (some (vI (((Int.tmod x1 5) - (Int.tmod x2 5)) + ((Int.tdiv x1 5) - (Int.tdiv x2 5))))) h) ∧ (¬(0 ≤ (Int.tdiv x1 5) - (Int.tdiv x2 5)) → R32 (-((Int.tdiv x1 5) - (Int.tdiv x2 5))) ∧ R32 (((Int.tmod x1 5) - (Int.tmod x2 5)) + (-((Int.tdiv x1 5) - (Int.tdiv x2 5)))) ∧ Q (some (vI (((Int.tmod x1 5) - (Int.tmod x2 5)) + (-((Int.tdiv x1 5) - (Int.tdiv x2 5)))))) h)) ∧ (¬(0 ≤ (Int.tmod x1 5) - (Int.tmod x2 5)) → R32 (-((Int.tmod x1 5) - (Int.tmod x2 5))) ∧ (0 ≤ (Int.tdiv x1 5) - (Int.tdiv x2 5) → R32 ((-((Int.tmod x1 5) - (Int.tmod x2 5))) + ((Int.tdiv x1 5) - (Int.tdiv x2 5))) ∧ Q (some (vI ((-((Int.tmod x1 5) - (Int.tmod x2 5))) + ((Int.tdiv x1 5) - (Int.tdiv x2 5))))) h) ∧ (¬(0 ≤ (Int.tdiv x1 5) - (Int.tdiv x2 5)) → R32 (-((Int.tdiv x1 5) - (Int.tdiv x2 5))) ∧ R32 ((-((Int.tmod x1 5) - (Int.tmod x2 5))) + (-((Int.tdiv x1 5) - (Int.tdiv x2 5)))) ∧ Q (some (vI ((-((Int.tmod x1 5) - (Int.tmod x2 5))) + (-((Int.tdiv x1 5) - (Int.tdiv x2 5)))))) h))) : WM GM d b mX8_steps [vI x1, vI x2] h Q := by
  refine WM_introE (loc' := [some (vI x1), some (vI x2), none, none]) rfl (by decide) (Nat.le_of_ble_eq_true rfl) ?_
  refine J_iload_n rfl dX8_steps_0 ?_
  refine J_iconst (by decide) dX8_steps_1 ?_
  refine J_irem (by decide) K.1 dX8_steps_2 ?_
  replace K := K.2
  refine J_iload_n rfl dX8_steps_3 ?_
  refine J_iconst (by decide) dX8_steps_4 ?_
  refine J_irem (by decide) K.1 dX8_steps_5 ?_
  replace K := K.2
  refine J_isub K.1 dX8_steps_6 ?_
  replace K := K.2
  refine J_istore_n (loc' := [some (vI x1), some (vI x2), some (vI ((Int.tmod x1 5) - (Int.tmod x2 5))), none]) (by decide) rfl dX8_steps_7 ?_
  refine J_iload_n rfl dX8_steps_8 ?_
  refine J_iconst (by decide) dX8_steps_9 ?_
  refine J_idiv (by decide) K.1 dX8_steps_10 ?_
  replace K := K.2
  refine J_iload_n rfl dX8_steps_11 ?_
  refine J_iconst (by decide) dX8_steps_12 ?_
  refine J_idiv (by decide) K.1 dX8_steps_13 ?_
  replace K := K.2
  refine J_isub K.1 dX8_steps_14 ?_
  replace K := K.2
  refine J_istore_n (loc' := [some (vI x1), some (vI x2), some (vI ((Int.tmod x1 5) - (Int.tmod x2 5))), some (vI ((Int.tdiv x1 5) - (Int.tdiv x2 5)))]) (by decide) rfl dX8_steps_15 ?_
  refine J_iload_n rfl dX8_steps_16 ?_
  refine J_if_ge (tgt := 25) dX8_steps_17 (by decide) (fun c => ?_) (fun c => ?_)
  · replace K := K.1 c
    refine J_iload_n rfl dX8_steps_25 ?_
    refine J_iload_n rfl dX8_steps_26 ?_
    refine J_if_ge (tgt := 35) dX8_steps_27 (by decide) (fun c => ?_) (fun c => ?_)
    · replace K := K.1 c
      refine J_iload_n rfl dX8_steps_35 ?_
      refine J_iadd K.1 dX8_steps_36 ?_
      replace K := K.2
      exact J_ireturn rfl dX8_steps_37 K
    · replace K := K.2 c
      refine J_iload_n rfl dX8_steps_30 ?_
      refine J_ineg K.1 dX8_steps_31 ?_
      replace K := K.2
      refine J_goto (tgt := 36) dX8_steps_32 (by decide) ?_
      refine J_iadd K.1 dX8_steps_36 ?_
      replace K := K.2
      exact J_ireturn rfl dX8_steps_37 K
  · replace K := K.2 c
    refine J_iload_n rfl dX8_steps_20 ?_
    refine J_ineg K.1 dX8_steps_21 ?_
    replace K := K.2
    refine J_goto (tgt := 26) dX8_steps_22 (by decide) ?_
    refine J_iload_n rfl dX8_steps_26 ?_
    refine J_if_ge (tgt := 35) dX8_steps_27 (by decide) (fun c => ?_) (fun c => ?_)
    · replace K := K.1 c
      refine J_iload_n rfl dX8_steps_35 ?_
      refine J_iadd K.1 dX8_steps_36 ?_
      replace K := K.2
      exact J_ireturn rfl dX8_steps_37 K
    · replace K := K.2 c
      refine J_iload_n rfl dX8_steps_30 ?_
      refine J_ineg K.1 dX8_steps_31 ?_
      replace K := K.2
      refine J_goto (tgt := 36) dX8_steps_32 (by decide) ?_
      refine J_iadd K.1 dX8_steps_36 ?_
      replace K := K.2
      exact J_ireturn rfl dX8_steps_37 K
set_option maxRecDepth 20000 in
set_option maxHeartbeats 2000000 in
theorem w_X8_binds {d b : Nat} {Q : Option AV → AH → Prop} {h : AH} {x1 : Int}  (K : (x1 < 31 → (x1 = 30 → Q (some (vI 1)) h) ∧ (¬(x1 = 30) → (x1 = 29 → Q (some (vI 2)) h) ∧ (¬(x1 = 29) → (x1 = 28 → Q (some (vI 3)) h) ∧ (¬(x1 = 28) → (x1 < 25 → (x1 < 22 → Q (some (vI 5)) h) ∧ (¬(x1 < 22) → Q (some (vI 6)) h)) ∧ (¬(x1 < 25) → Q (some (vI 4)) h))))) ∧ (¬(x1 < 31) → Q (some (vI 0)) h)) : WM GM d b mX8_binds [vI x1] h Q := by
  refine WM_introE (loc' := [some (vI x1)]) rfl (by decide) (Nat.le_of_ble_eq_true rfl) ?_
  refine J_iload_n rfl dX8_binds_0 ?_
  refine J_bipush (by decide) (by decide) dX8_binds_1 ?_
  refine J_icmp_lt (tgt := 10) dX8_binds_3 (by decide) (fun c => ?_) (fun c => ?_)
  · replace K := K.1 c
    refine J_iload_n rfl dX8_binds_10 ?_
    refine J_bipush (by decide) (by decide) dX8_binds_11 ?_
    refine J_icmp_ne (tgt := 20) dX8_binds_13 (by decide) (fun c => ?_) (fun c => ?_)
    · replace K := K.2 c
      refine J_iload_n rfl dX8_binds_20 ?_
      refine J_bipush (by decide) (by decide) dX8_binds_21 ?_
      refine J_icmp_ne (tgt := 30) dX8_binds_23 (by decide) (fun c => ?_) (fun c => ?_)
      · replace K := K.2 c
        refine J_iload_n rfl dX8_binds_30 ?_
        refine J_bipush (by decide) (by decide) dX8_binds_31 ?_
        refine J_icmp_ne (tgt := 40) dX8_binds_33 (by decide) (fun c => ?_) (fun c => ?_)
        · replace K := K.2 c
          refine J_iload_n rfl dX8_binds_40 ?_
          refine J_bipush (by decide) (by decide) dX8_binds_41 ?_
          refine J_icmp_lt (tgt := 50) dX8_binds_43 (by decide) (fun c => ?_) (fun c => ?_)
          · replace K := K.1 c
            refine J_iload_n rfl dX8_binds_50 ?_
            refine J_bipush (by decide) (by decide) dX8_binds_51 ?_
            refine J_icmp_lt (tgt := 61) dX8_binds_53 (by decide) (fun c => ?_) (fun c => ?_)
            · replace K := K.1 c
              refine J_iconst (by decide) dX8_binds_61 ?_
              exact J_ireturn rfl dX8_binds_62 K
            · replace K := K.2 c
              refine J_bipush (by decide) (by decide) dX8_binds_56 ?_
              refine J_goto (tgt := 62) dX8_binds_58 (by decide) ?_
              exact J_ireturn rfl dX8_binds_62 K
          · replace K := K.2 c
            refine J_iconst (by decide) dX8_binds_46 ?_
            refine J_goto (tgt := 62) dX8_binds_47 (by decide) ?_
            exact J_ireturn rfl dX8_binds_62 K
        · replace K := K.1 c
          refine J_iconst (by decide) dX8_binds_36 ?_
          refine J_goto (tgt := 62) dX8_binds_37 (by decide) ?_
          exact J_ireturn rfl dX8_binds_62 K
      · replace K := K.1 c
        refine J_iconst (by decide) dX8_binds_26 ?_
        refine J_goto (tgt := 62) dX8_binds_27 (by decide) ?_
        exact J_ireturn rfl dX8_binds_62 K
    · replace K := K.1 c
      refine J_iconst (by decide) dX8_binds_16 ?_
      refine J_goto (tgt := 62) dX8_binds_17 (by decide) ?_
      exact J_ireturn rfl dX8_binds_62 K
  · replace K := K.2 c
    refine J_iconst (by decide) dX8_binds_6 ?_
    refine J_goto (tgt := 62) dX8_binds_7 (by decide) ?_
    exact J_ireturn rfl dX8_binds_62 K
set_option maxRecDepth 20000 in
set_option maxHeartbeats 2000000 in
theorem w_X8_emit {d b : Nat} {Q : Option AV → AH → Prop} {h : AH} {x1 : Int} {x2 : Int}  (K : (0 ≤ gi h 0 23 ∧ gi h 0 23 < 400) ∧ ∀ h1, h1 = si h 11 (gi h 0 23) x1 → (0 ≤ gi h 0 23 ∧ gi h 0 23 < 400) ∧ ∀ h2, h2 = si h1 12 (gi h 0 23) x2 → R32 ((gi h 0 23) + 1) ∧ ∀ h3, h3 = si h2 0 23 ((gi h 0 23) + 1) → Q none h3) : WM GM d b mX8_emit [vR (some 0), vI x1, vI x2] h Q := by
  refine WM_introE (loc' := [some (vR (some 0)), some (vI x1), some (vI x2)]) rfl (by decide) (Nat.le_of_ble_eq_true rfl) ?_
  refine J_aload_n rfl dX8_emit_0 ?_
  refine J_getS (r := 11) fl_RX8_45 rfl (Or.inl rfl) rfl dX8_emit_1 ?_
  refine J_aload_n rfl dX8_emit_4 ?_
  refine J_getI fl_RX8_289 rfl (Or.inl rfl) dX8_emit_5 ?_
  refine J_iload_n rfl dX8_emit_8 ?_
  refine J_iastore (Or.inl rfl) K.1 dX8_emit_9 ?_
  replace K := K.2
  replace K := K _ rfl
  refine J_aload_n rfl dX8_emit_10 ?_
  refine J_getS (r := 12) fl_RX8_48 rfl (Or.inl rfl) rfl dX8_emit_11 ?_
  refine J_aload_n rfl dX8_emit_14 ?_
  refine J_getIe fl_RX8_289 rfl (Or.inl rfl) (gi_no (by decide)) dX8_emit_15 ?_
  refine J_iload_n rfl dX8_emit_18 ?_
  refine J_iastore (Or.inl rfl) K.1 dX8_emit_19 ?_
  replace K := K.2
  replace K := K _ rfl
  refine J_aload_n rfl dX8_emit_20 ?_
  refine J_dup rfl dX8_emit_21 ?_
  refine J_getIe fl_RX8_289 rfl (Or.inl rfl) (Eq.trans (gi_no (by decide)) (gi_no (by decide))) dX8_emit_22 ?_
  refine J_iconst (by decide) dX8_emit_25 ?_
  refine J_iadd K.1 dX8_emit_26 ?_
  replace K := K.2
  refine J_putI fl_RX8_289 rfl (Or.inl rfl) dX8_emit_27 ?_
  replace K := K _ rfl
  exact J_return rfl dX8_emit_30 K
set_option maxRecDepth 20000 in
set_option maxHeartbeats 2000000 in
theorem w_X8_push {d b : Nat} {Q : Option AV → AH → Prop} {h : AH} {x1 : Int} {x2 : Int}  (K : (0 ≤ gi h 0 29 ∧ gi h 0 29 < 400) ∧ ∀ h1, h1 = si h 13 (gi h 0 29) x1 → (0 ≤ gi h 0 29 ∧ gi h 0 29 < 400) ∧ ∀ h2, h2 = si h1 14 (gi h 0 29) x2 → R32 ((gi h 0 29) + 1) ∧ ∀ h3, h3 = si h2 0 29 ((gi h 0 29) + 1) → Q none h3) : WM GM d b mX8_push [vR (some 0), vI x1, vI x2] h Q := by
  refine WM_introE (loc' := [some (vR (some 0)), some (vI x1), some (vI x2)]) rfl (by decide) (Nat.le_of_ble_eq_true rfl) ?_
  refine J_aload_n rfl dX8_push_0 ?_
  refine J_getS (r := 13) fl_RX8_51 rfl (Or.inl rfl) rfl dX8_push_1 ?_
  refine J_aload_n rfl dX8_push_4 ?_
  refine J_getI fl_RX8_292 rfl (Or.inl rfl) dX8_push_5 ?_
  refine J_iload_n rfl dX8_push_8 ?_
  refine J_iastore (Or.inl rfl) K.1 dX8_push_9 ?_
  replace K := K.2
  replace K := K _ rfl
  refine J_aload_n rfl dX8_push_10 ?_
  refine J_getS (r := 14) fl_RX8_54 rfl (Or.inl rfl) rfl dX8_push_11 ?_
  refine J_aload_n rfl dX8_push_14 ?_
  refine J_getIe fl_RX8_292 rfl (Or.inl rfl) (gi_no (by decide)) dX8_push_15 ?_
  refine J_iload_n rfl dX8_push_18 ?_
  refine J_iastore (Or.inl rfl) K.1 dX8_push_19 ?_
  replace K := K.2
  replace K := K _ rfl
  refine J_aload_n rfl dX8_push_20 ?_
  refine J_dup rfl dX8_push_21 ?_
  refine J_getIe fl_RX8_292 rfl (Or.inl rfl) (Eq.trans (gi_no (by decide)) (gi_no (by decide))) dX8_push_22 ?_
  refine J_iconst (by decide) dX8_push_25 ?_
  refine J_iadd K.1 dX8_push_26 ?_
  replace K := K.2
  refine J_putI fl_RX8_292 rfl (Or.inl rfl) dX8_push_27 ?_
  replace K := K _ rfl
  exact J_return rfl dX8_push_30 K
def Lp_X8_inner_4 (d b : Nat) (Q : Option AV → AH → Prop)  (y1 : Int) (y2 : Int) (h : AH) : Prop := J GM d b mX8_inner Q 4 [some (vR (some 0)), some (vI y1), some (vI y2)] [] h
set_option maxRecDepth 20000 in
set_option maxHeartbeats 2000000 in
theorem l_X8_inner_4 {d b : Nat} {Q : Option AV → AH → Prop} {h : AH}  {y1 : Int} {y2 : Int}  (K : (gi h 0 29 ≤ y2 → Q (some (vI y1)) h) ∧ (¬(gi h 0 29 ≤ y2) → (0 ≤ y2 ∧ y2 < 400) ∧ (gi h 13 y2 < 31 → R32 (y2 + 1) ∧ Lp_X8_inner_4 d b Q y1 (y2 + 1) h) ∧ (¬(gi h 13 y2 < 31) → (0 ≤ y2 ∧ y2 < 400) ∧ R32 (y2 + 1) ∧ Lp_X8_inner_4 d b Q (gi h 13 y2) (y2 + 1) h))) : Lp_X8_inner_4 d b Q y1 y2 h := by
  unfold Lp_X8_inner_4
  refine J_iload_n rfl dX8_inner_4 ?_
  refine J_aload_n rfl dX8_inner_5 ?_
  refine J_getI fl_RX8_292 rfl (Or.inl rfl) dX8_inner_6 ?_
  refine J_icmp_ge (tgt := 40) dX8_inner_9 (by decide) (fun c => ?_) (fun c => ?_)
  · replace K := K.1 c
    refine J_iload_n rfl dX8_inner_40 ?_
    exact J_ireturn rfl dX8_inner_41 K
  · replace K := K.2 c
    refine J_aload_n rfl dX8_inner_12 ?_
    refine J_getS (r := 13) fl_RX8_51 rfl (Or.inl rfl) rfl dX8_inner_13 ?_
    refine J_iload_n rfl dX8_inner_16 ?_
    refine J_iaload (Or.inl rfl) K.1 dX8_inner_17 ?_
    replace K := K.2
    refine J_bipush (by decide) (by decide) dX8_inner_18 ?_
    refine J_icmp_lt (tgt := 32) dX8_inner_20 (by decide) (fun c => ?_) (fun c => ?_)
    · replace K := K.1 c
      refine J_iload_n rfl dX8_inner_32 ?_
      refine J_istore_n (loc' := [some (vR (some 0)), some (vI y1), some (vI y2)]) (by decide) rfl dX8_inner_33 ?_
      refine J_iinc (loc' := [some (vR (some 0)), some (vI y1), some (vI (y2 + 1))]) (by decide) rfl K.1 rfl dX8_inner_34 ?_
      replace K := K.2
      refine J_goto (tgt := 4) dX8_inner_37 (by decide) ?_
      exact J_forget (loc' := [some (vR (some 0)), some (vI y1), some (vI (y2 + 1))]) (And.intro (Or.inr rfl) (And.intro (Or.inr rfl) (And.intro (Or.inr rfl) True.intro))) K
    · replace K := K.2 c
      refine J_aload_n rfl dX8_inner_23 ?_
      refine J_getS (r := 13) fl_RX8_51 rfl (Or.inl rfl) rfl dX8_inner_24 ?_
      refine J_iload_n rfl dX8_inner_27 ?_
      refine J_iaload (Or.inl rfl) K.1 dX8_inner_28 ?_
      replace K := K.2
      refine J_goto (tgt := 33) dX8_inner_29 (by decide) ?_
      refine J_istore_n (loc' := [some (vR (some 0)), some (vI (gi h 13 y2)), some (vI y2)]) (by decide) rfl dX8_inner_33 ?_
      refine J_iinc (loc' := [some (vR (some 0)), some (vI (gi h 13 y2)), some (vI (y2 + 1))]) (by decide) rfl K.1 rfl dX8_inner_34 ?_
      replace K := K.2
      refine J_goto (tgt := 4) dX8_inner_37 (by decide) ?_
      exact J_forget (loc' := [some (vR (some 0)), some (vI (gi h 13 y2)), some (vI (y2 + 1))]) (And.intro (Or.inr rfl) (And.intro (Or.inr rfl) (And.intro (Or.inr rfl) True.intro))) K
set_option maxRecDepth 20000 in
set_option maxHeartbeats 2000000 in
theorem w_X8_inner {d b : Nat} {Q : Option AV → AH → Prop} {h : AH}   (K : Lp_X8_inner_4 d b Q (-1) 0 h) : WM GM d b mX8_inner [vR (some 0)] h Q := by
  refine WM_introE (loc' := [some (vR (some 0)), none, none]) rfl (by decide) (Nat.le_of_ble_eq_true rfl) ?_
  refine J_iconst (by decide) dX8_inner_0 ?_
  refine J_istore_n (loc' := [some (vR (some 0)), some (vI (-1)), none]) (by decide) rfl dX8_inner_1 ?_
  refine J_iconst (by decide) dX8_inner_2 ?_
  refine J_istore_n (loc' := [some (vR (some 0)), some (vI (-1)), some (vI 0)]) (by decide) rfl dX8_inner_3 ?_
  exact J_forget (loc' := [some (vR (some 0)), some (vI (-1)), some (vI 0)]) (And.intro (Or.inr rfl) (And.intro (Or.inr rfl) (And.intro (Or.inr rfl) True.intro))) K
set_option maxRecDepth 20000 in
set_option maxHeartbeats 2000000 in
theorem w_X8_draw {d b : Nat} {Q : Option AV → AH → Prop} {h : AH} {x1 : Int}  (K : R64 ((gl h 0 54) * 1103) ∧ R64 (((gl h 0 54) * 1103) + 12345) ∧ R64 (Int.tmod (((gl h 0 54) * 1103) + 12345) 1000003) ∧ ∀ h1, h1 = sl h 0 54 (Int.tmod (((gl h 0 54) * 1103) + 12345) 1000003) → x1 ≠ 0 ∧ R64 (Int.tmod (Int.tmod (((gl h 0 54) * 1103) + 12345) 1000003) x1) ∧ Q (some (vI (zl2i (Int.tmod (Int.tmod (((gl h 0 54) * 1103) + 12345) 1000003) x1)))) h1) : WM GM d b mX8_draw [vR (some 0), vI x1] h Q := by
  refine WM_introE (loc' := [some (vR (some 0)), some (vI x1)]) rfl (by decide) (Nat.le_of_ble_eq_true rfl) ?_
  refine J_aload_n rfl dX8_draw_0 ?_
  refine J_aload_n rfl dX8_draw_1 ?_
  refine J_getL fl_RX8_550 rfl (Or.inl rfl) dX8_draw_2 ?_
  refine J_ldc2 (n := 1103) (by decide) (by decide) kc_RX8_553 dX8_draw_5 ?_
  refine J_lmul K.1 dX8_draw_8 ?_
  replace K := K.2
  refine J_ldc2 (n := 12345) (by decide) (by decide) kc_RX8_555 dX8_draw_9 ?_
  refine J_ladd K.1 dX8_draw_12 ?_
  replace K := K.2
  refine J_ldc2 (n := 1000003) (by decide) (by decide) kc_RX8_557 dX8_draw_13 ?_
  refine J_lrem (by decide) K.1 dX8_draw_16 ?_
  replace K := K.2
  refine J_putL fl_RX8_550 rfl (Or.inl rfl) dX8_draw_17 ?_
  replace K := K _ rfl
  refine J_aload_n rfl dX8_draw_20 ?_
  refine J_getLe fl_RX8_550 rfl (Or.inl rfl) gl_eq dX8_draw_21 ?_
  refine J_iload_n rfl dX8_draw_24 ?_
  refine J_i2l dX8_draw_25 ?_
  refine J_lrem K.1 K.2.1 dX8_draw_26 ?_
  replace K := K.2.2
  refine J_l2i dX8_draw_27 ?_
  exact J_ireturn rfl dX8_draw_28 K
def Lp_X8_lostDoors_4 (d b : Nat) (Q : Option AV → AH → Prop)  (y1 : Int) (y2 : Int) (h : AH) : Prop := J GM d b mX8_lostDoors Q 4 [some (vR (some 0)), some (vI y1), some (vI y2)] [] h
set_option maxRecDepth 20000 in
set_option maxHeartbeats 2000000 in
theorem l_X8_lostDoors_4 {d b : Nat} {Q : Option AV → AH → Prop} {h : AH}  {y1 : Int} {y2 : Int}  (K : (gi h 2 1 ≤ y2 → Q (some (vI y1)) h) ∧ (¬(gi h 2 1 ≤ y2) → R32 (31 + y2) ∧ (0 ≤ 31 + y2 ∧ 31 + y2 < 5540) ∧ R32 (y1 + (gi h 2 (31 + y2))) ∧ R32 (y2 + 1) ∧ Lp_X8_lostDoors_4 d b Q (y1 + (gi h 2 (31 + y2))) (y2 + 1) h)) : Lp_X8_lostDoors_4 d b Q y1 y2 h := by
  unfold Lp_X8_lostDoors_4
  refine J_iload_n rfl dX8_lostDoors_4 ?_
  refine J_aload_n rfl dX8_lostDoors_5 ?_
  refine J_getS (r := 2) fl_RX8_13 rfl (Or.inl rfl) rfl dX8_lostDoors_6 ?_
  refine J_iconst (by decide) dX8_lostDoors_9 ?_
  refine J_iaload (Or.inl rfl) (by decide) dX8_lostDoors_10 ?_
  refine J_icmp_ge (tgt := 32) dX8_lostDoors_11 (by decide) (fun c => ?_) (fun c => ?_)
  · replace K := K.1 c
    refine J_iload_n rfl dX8_lostDoors_32 ?_
    exact J_ireturn rfl dX8_lostDoors_33 K
  · replace K := K.2 c
    refine J_iload_n rfl dX8_lostDoors_14 ?_
    refine J_aload_n rfl dX8_lostDoors_15 ?_
    refine J_getS (r := 2) fl_RX8_13 rfl (Or.inl rfl) rfl dX8_lostDoors_16 ?_
    refine J_bipush (by decide) (by decide) dX8_lostDoors_19 ?_
    refine J_iload_n rfl dX8_lostDoors_21 ?_
    refine J_iadd K.1 dX8_lostDoors_22 ?_
    replace K := K.2
    refine J_iaload (Or.inl rfl) K.1 dX8_lostDoors_23 ?_
    replace K := K.2
    refine J_iadd K.1 dX8_lostDoors_24 ?_
    replace K := K.2
    refine J_istore_n (loc' := [some (vR (some 0)), some (vI (y1 + (gi h 2 (31 + y2)))), some (vI y2)]) (by decide) rfl dX8_lostDoors_25 ?_
    refine J_iinc (loc' := [some (vR (some 0)), some (vI (y1 + (gi h 2 (31 + y2)))), some (vI (y2 + 1))]) (by decide) rfl K.1 rfl dX8_lostDoors_26 ?_
    replace K := K.2
    refine J_goto (tgt := 4) dX8_lostDoors_29 (by decide) ?_
    exact J_forget (loc' := [some (vR (some 0)), some (vI (y1 + (gi h 2 (31 + y2)))), some (vI (y2 + 1))]) (And.intro (Or.inr rfl) (And.intro (Or.inr rfl) (And.intro (Or.inr rfl) True.intro))) K
set_option maxRecDepth 20000 in
set_option maxHeartbeats 2000000 in
theorem w_X8_lostDoors {d b : Nat} {Q : Option AV → AH → Prop} {h : AH}   (K : Lp_X8_lostDoors_4 d b Q 0 0 h) : WM GM d b mX8_lostDoors [vR (some 0)] h Q := by
  refine WM_introE (loc' := [some (vR (some 0)), none, none]) rfl (by decide) (Nat.le_of_ble_eq_true rfl) ?_
  refine J_iconst (by decide) dX8_lostDoors_0 ?_
  refine J_istore_n (loc' := [some (vR (some 0)), some (vI 0), none]) (by decide) rfl dX8_lostDoors_1 ?_
  refine J_iconst (by decide) dX8_lostDoors_2 ?_
  refine J_istore_n (loc' := [some (vR (some 0)), some (vI 0), some (vI 0)]) (by decide) rfl dX8_lostDoors_3 ?_
  exact J_forget (loc' := [some (vR (some 0)), some (vI 0), some (vI 0)]) (And.intro (Or.inr rfl) (And.intro (Or.inr rfl) (And.intro (Or.inr rfl) True.intro))) K
set_option maxRecDepth 20000 in
set_option maxHeartbeats 2000000 in
theorem w_X8_reckon {d b : Nat} {Q : Option AV → AH → Prop} {h : AH} {x1 : Int} {x2 : Int} {x3 : Int}  (K : (x1 = 20 → R64 (x2 + x3) ∧ Q (some (vL (x2 + x3))) h) ∧ (¬(x1 = 20) → (x1 = 21 → R64 (x2 - x3) ∧ Q (some (vL (x2 - x3))) h) ∧ (¬(x1 = 21) → (x1 = 22 → R64 (x2 * x3) ∧ Q (some (vL (x2 * x3))) h) ∧ (¬(x1 = 22) → (x1 = 23 → (x3 = 0 → ∀ h2, h2 = si h 0 38 1 → Q (some (vL 0)) h2) ∧ (¬(x3 = 0) → ∀ h1, h1 = si h 0 38 0 → x3 ≠ 0 ∧ R64 (Int.tdiv x2 x3) ∧ Q (some (vL (Int.tdiv x2 x3))) h1)) ∧ (¬(x1 = 23) → (x1 = 24 → (x3 = 0 → ∀ h4, h4 = si h 0 38 1 → Q (some (vL 0)) h4) ∧ (¬(x3 = 0) → ∀ h3, h3 = si h 0 38 0 → x3 ≠ 0 ∧ R64 (Int.tmod x2 x3) ∧ Q (some (vL (Int.tmod x2 x3))) h3)) ∧ (¬(x1 = 24) → (x1 = 25 → (x3 ≤ x2 → Q (some (vL 0)) h) ∧ (¬(x3 ≤ x2) → Q (some (vL 1)) h)) ∧ (¬(x1 = 25) → (x1 = 26 → (x2 ≤ x3 → Q (some (vL 0)) h) ∧ (¬(x2 ≤ x3) → Q (some (vL 1)) h)) ∧ (¬(x1 = 26) → (x2 = x3 → Q (some (vL 1)) h) ∧ (¬(x2 = x3) → Q (some (vL 0)) h))))))))) : WM GM d b mX8_reckon [vR (some 0), vI x1, vL x2, vL x3] h Q := by
  refine WM_introE (loc' := [some (vR (some 0)), some (vI x1), some (vL x2), none, some (vL x3), none]) rfl (by decide) (Nat.le_of_ble_eq_true rfl) ?_
  refine J_iload_n rfl dX8_reckon_0 ?_
  by_cases c : x1 = 20
  · replace K := K.1 c
    refine J_tsIn (tgt := 44) 20 c (by decide) (by decide) rfl dX8_reckon_1 (by decide) ?_
    refine J_lload_n rfl dX8_reckon_44 ?_
    refine J_lload rfl dX8_reckon_45 ?_
    refine J_ladd K.1 dX8_reckon_47 ?_
    replace K := K.2
    exact J_lreturn rfl dX8_reckon_48 K
  replace K := K.2 c
  have cc1 := c
  clear c
  by_cases c : x1 = 21
  · replace K := K.1 c
    refine J_tsIn (tgt := 49) 21 c (by decide) (by decide) rfl dX8_reckon_1 (by decide) ?_
    refine J_lload_n rfl dX8_reckon_49 ?_
    refine J_lload rfl dX8_reckon_50 ?_
    refine J_lsub K.1 dX8_reckon_52 ?_
    replace K := K.2
    exact J_lreturn rfl dX8_reckon_53 K
  replace K := K.2 c
  have cc2 := c
  clear c
  by_cases c : x1 = 22
  · replace K := K.1 c
    refine J_tsIn (tgt := 54) 22 c (by decide) (by decide) rfl dX8_reckon_1 (by decide) ?_
    refine J_lload_n rfl dX8_reckon_54 ?_
    refine J_lload rfl dX8_reckon_55 ?_
    refine J_lmul K.1 dX8_reckon_57 ?_
    replace K := K.2
    exact J_lreturn rfl dX8_reckon_58 K
  replace K := K.2 c
  have cc3 := c
  clear c
  by_cases c : x1 = 23
  · replace K := K.1 c
    refine J_tsIn (tgt := 59) 23 c (by decide) (by decide) rfl dX8_reckon_1 (by decide) ?_
    refine J_aload_n rfl dX8_reckon_59 ?_
    refine J_lload rfl dX8_reckon_60 ?_
    refine J_lconst (x := 0) (by decide) (by decide) dX8_reckon_62 ?_
    refine J_lcmp dX8_reckon_63 ?_
    refine J_if_ne (tgt := 71) dX8_reckon_64 (by decide) (fun c => ?_) (fun c => ?_)
    · replace K := K.2 (fun z => c (zc_eq.mpr z))
      refine J_iconst (by decide) dX8_reckon_71 ?_
      refine J_putZ fl_RX8_398 rfl (by decide) (Or.inl rfl) dX8_reckon_72 ?_
      replace K := K _ rfl
      refine J_aload_n rfl dX8_reckon_75 ?_
      refine J_getIe fl_RX8_398 rfl (Or.inl rfl) gi_eq dX8_reckon_76 ?_
      refine J_if_eq (tgt := 86) dX8_reckon_79 (by decide) (fun _ => ?_) (fun c => absurd c (by decide))
      refine J_lload_n rfl dX8_reckon_86 ?_
      refine J_lload rfl dX8_reckon_87 ?_
      refine J_ldiv K.1 K.2.1 dX8_reckon_89 ?_
      replace K := K.2.2
      exact J_lreturn rfl dX8_reckon_90 K
    · replace K := K.1 (zc_eq.mp c)
      refine J_iconst (by decide) dX8_reckon_67 ?_
      refine J_goto (tgt := 72) dX8_reckon_68 (by decide) ?_
      refine J_putZ fl_RX8_398 rfl (by decide) (Or.inl rfl) dX8_reckon_72 ?_
      replace K := K _ rfl
      refine J_aload_n rfl dX8_reckon_75 ?_
      refine J_getIe fl_RX8_398 rfl (Or.inl rfl) gi_eq dX8_reckon_76 ?_
      refine J_if_eq (tgt := 86) dX8_reckon_79 (by decide) (fun c => absurd c (by decide)) (fun _ => ?_)
      refine J_lconst (x := 0) (by decide) (by decide) dX8_reckon_82 ?_
      refine J_goto (tgt := 90) dX8_reckon_83 (by decide) ?_
      exact J_lreturn rfl dX8_reckon_90 K
  replace K := K.2 c
  have cc4 := c
  clear c
  by_cases c : x1 = 24
  · replace K := K.1 c
    refine J_tsIn (tgt := 91) 24 c (by decide) (by decide) rfl dX8_reckon_1 (by decide) ?_
    refine J_aload_n rfl dX8_reckon_91 ?_
    refine J_lload rfl dX8_reckon_92 ?_
    refine J_lconst (x := 0) (by decide) (by decide) dX8_reckon_94 ?_
    refine J_lcmp dX8_reckon_95 ?_
    refine J_if_ne (tgt := 103) dX8_reckon_96 (by decide) (fun c => ?_) (fun c => ?_)
    · replace K := K.2 (fun z => c (zc_eq.mpr z))
      refine J_iconst (by decide) dX8_reckon_103 ?_
      refine J_putZ fl_RX8_398 rfl (by decide) (Or.inl rfl) dX8_reckon_104 ?_
      replace K := K _ rfl
      refine J_aload_n rfl dX8_reckon_107 ?_
      refine J_getIe fl_RX8_398 rfl (Or.inl rfl) gi_eq dX8_reckon_108 ?_
      refine J_if_eq (tgt := 118) dX8_reckon_111 (by decide) (fun _ => ?_) (fun c => absurd c (by decide))
      refine J_lload_n rfl dX8_reckon_118 ?_
      refine J_lload rfl dX8_reckon_119 ?_
      refine J_lrem K.1 K.2.1 dX8_reckon_121 ?_
      replace K := K.2.2
      exact J_lreturn rfl dX8_reckon_122 K
    · replace K := K.1 (zc_eq.mp c)
      refine J_iconst (by decide) dX8_reckon_99 ?_
      refine J_goto (tgt := 104) dX8_reckon_100 (by decide) ?_
      refine J_putZ fl_RX8_398 rfl (by decide) (Or.inl rfl) dX8_reckon_104 ?_
      replace K := K _ rfl
      refine J_aload_n rfl dX8_reckon_107 ?_
      refine J_getIe fl_RX8_398 rfl (Or.inl rfl) gi_eq dX8_reckon_108 ?_
      refine J_if_eq (tgt := 118) dX8_reckon_111 (by decide) (fun c => absurd c (by decide)) (fun _ => ?_)
      refine J_lconst (x := 0) (by decide) (by decide) dX8_reckon_114 ?_
      refine J_goto (tgt := 122) dX8_reckon_115 (by decide) ?_
      exact J_lreturn rfl dX8_reckon_122 K
  replace K := K.2 c
  have cc5 := c
  clear c
  by_cases c : x1 = 25
  · replace K := K.1 c
    refine J_tsIn (tgt := 123) 25 c (by decide) (by decide) rfl dX8_reckon_1 (by decide) ?_
    refine J_lload_n rfl dX8_reckon_123 ?_
    refine J_lload rfl dX8_reckon_124 ?_
    refine J_lcmp dX8_reckon_126 ?_
    refine J_if_ge (tgt := 134) dX8_reckon_127 (by decide) (fun c => ?_) (fun c => ?_)
    · replace K := K.1 (zc_ge.mp c)
      refine J_lconst (x := 0) (by decide) (by decide) dX8_reckon_134 ?_
      exact J_lreturn rfl dX8_reckon_135 K
    · replace K := K.2 (fun z => c (zc_ge.mpr z))
      refine J_lconst (x := 1) (by decide) (by decide) dX8_reckon_130 ?_
      refine J_goto (tgt := 135) dX8_reckon_131 (by decide) ?_
      exact J_lreturn rfl dX8_reckon_135 K
  replace K := K.2 c
  have cc6 := c
  clear c
  by_cases c : x1 = 26
  · replace K := K.1 c
    refine J_tsIn (tgt := 136) 26 c (by decide) (by decide) rfl dX8_reckon_1 (by decide) ?_
    refine J_lload_n rfl dX8_reckon_136 ?_
    refine J_lload rfl dX8_reckon_137 ?_
    refine J_lcmp dX8_reckon_139 ?_
    refine J_if_le (tgt := 147) dX8_reckon_140 (by decide) (fun c => ?_) (fun c => ?_)
    · replace K := K.1 (zc_le.mp c)
      refine J_lconst (x := 0) (by decide) (by decide) dX8_reckon_147 ?_
      exact J_lreturn rfl dX8_reckon_148 K
    · replace K := K.2 (fun z => c (zc_le.mpr z))
      refine J_lconst (x := 1) (by decide) (by decide) dX8_reckon_143 ?_
      refine J_goto (tgt := 148) dX8_reckon_144 (by decide) ?_
      exact J_lreturn rfl dX8_reckon_148 K
  replace K := K.2 c
  have cc7 := c
  clear c
  refine J_tsOut (tgt := 149) (by omega) dX8_reckon_1 (by decide) ?_
  refine J_lload_n rfl dX8_reckon_149 ?_
  refine J_lload rfl dX8_reckon_150 ?_
  refine J_lcmp dX8_reckon_152 ?_
  refine J_if_ne (tgt := 160) dX8_reckon_153 (by decide) (fun c => ?_) (fun c => ?_)
  · replace K := K.2 (fun z => c (zc_eq.mpr z))
    refine J_lconst (x := 0) (by decide) (by decide) dX8_reckon_160 ?_
    exact J_lreturn rfl dX8_reckon_161 K
  · replace K := K.1 (zc_eq.mp c)
    refine J_lconst (x := 1) (by decide) (by decide) dX8_reckon_156 ?_
    refine J_goto (tgt := 161) dX8_reckon_157 (by decide) ?_
    exact J_lreturn rfl dX8_reckon_161 K
