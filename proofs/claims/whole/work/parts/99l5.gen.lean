theorem lp_model {d b n o : Nat} {Q : Option AV → AH → Prop} {h : AH} (k0 : Kd G0 h o (.inl 8)) (n0 : hn h = n + 31) (r0 : rf h o ((3 : Nat) : Int) = some (n + 1)) (ka : Kd G0 h (n + 1) (.inr (0, 5540))) (K : Q none (fil h (n + 1) 39 25 10)) : ∀ (f : Nat) (i : Int), i + f = 25 → 0 ≤ i → J G0 d b mX8_init Q 452 [some (vR (some o)), some (vI i)] [] (fil h (n + 1) 39 i 10)
  | 0, i, e, i0 => by
    have : i = 25 := by omega
    subst this
    refine J_iload_n rfl dX8_init_452 ?_
    refine J_bipush (by decide) (by decide) dX8_init_453 ?_
    refine J_icmp_ge (tgt := 475) dX8_init_455 (by decide) (fun _ => ?_) (fun c => absurd c (by decide))
    exact J_return rfl dX8_init_475 K
  | f + 1, i, e, i0 => by
    refine J_iload_n rfl dX8_init_452 ?_
    refine J_bipush (by decide) (by decide) dX8_init_453 ?_
    refine J_icmp_ge (tgt := 475) dX8_init_455 (by decide) (fun c => by omega) (fun _ => ?_)
    refine J_aload_n rfl dX8_init_458 ?_
    refine J_getRe (r := n + 1) fl_RX8_13 rfl (h := fil h (n + 1) 39 i 10) k0 r0 dX8_init_459 ?_
    refine J_bipush (by decide) (by decide) dX8_init_462 ?_
    refine J_iload_n rfl dX8_init_464 ?_
    refine J_iadd (by omega) dX8_init_465 ?_
    refine J_bipush (by decide) (by decide) dX8_init_466 ?_
    refine J_iastore (h := fil h (n + 1) 39 i 10) ka (by omega) dX8_init_468 ?_
    refine J_iinc (loc' := [some (vR (some o)), some (vI (i + 1))]) (by decide) rfl (by omega) rfl dX8_init_469 ?_
    refine J_goto (tgt := 452) dX8_init_472 (by decide) ?_
    rw [fil_s i0]
    exact lp_model k0 n0 r0 ka K f (i + 1) (by omega) (by omega)
def modelH0 (h : AH) (o n : Nat) : AH := sr (nwn (sr (nwn (sr (nwn (sr (nwn (sr (nwn (sr (nwn h n (.inr (0, 7))) o ((2 : Nat) : Int) (some n)) (n + 1) (.inr (0, 5540))) o ((3 : Nat) : Int) (some (n + 1))) (n + 2) (.inr (0, 11080))) o ((4 : Nat) : Int) (some (n + 2))) (n + 3) (.inr (1, 2))) o ((5 : Nat) : Int) (some (n + 3))) (n + 4) (.inr (0, 1062))) o ((6 : Nat) : Int) (some (n + 4))) (n + 5) (.inr (0, 16))) o ((7 : Nat) : Int) (some (n + 5))
def modelH1 (h : AH) (o n : Nat) : AH := nwn (sr (nwn (sr (nwn (si (sr (nwn (sr (nwn (sr (nwn (modelH0 h o n) (n + 6) (.inr (0, 944))) o ((9 : Nat) : Int) (some (n + 6))) (n + 7) (.inr (0, 16))) o ((10 : Nat) : Int) (some (n + 7))) (n + 8) (.inr (0, 400))) o ((12 : Nat) : Int) (some (n + 8))) o ((18 : Nat) : Int) (-1)) (n + 9) (.inr (0, 96))) o ((22 : Nat) : Int) (some (n + 9))) (n + 10) (.inr (0, 400))) o ((24 : Nat) : Int) (some (n + 10))) (n + 11) (.inr (0, 400))
def modelH2 (h : AH) (o n : Nat) : AH := sl (sl (sl (sl (sl (sl (nwn (sr (nwn (sr (nwn (sr (modelH1 h o n) o ((25 : Nat) : Int) (some (n + 11))) (n + 12) (.inr (0, 400))) o ((27 : Nat) : Int) (some (n + 12))) (n + 13) (.inr (0, 400))) o ((28 : Nat) : Int) (some (n + 13))) (n + 14) (.inr (2, 11))) (n + 14) 0 146930) (n + 14) 1 763013) (n + 14) 2 769508) (n + 14) 3 277925) (n + 14) 4 8902245) (n + 14) 5 632645
def modelH3 (h : AH) (o n : Nat) : AH := sl (sl (sl (sl (sl (nwn (sr (sl (sl (sl (sl (sl (modelH2 h o n) (n + 14) 6 103820) (n + 14) 7 206440) (n + 14) 8 3199080) (n + 14) 9 4153) (n + 14) 10 441828) o ((31 : Nat) : Int) (some (n + 14))) (n + 15) (.inr (2, 7))) (n + 15) 0 4153) (n + 15) 1 146885) (n + 15) 2 404362868) (n + 15) 3 508078) (n + 15) 4 52
def modelH4 (h : AH) (o n : Nat) : AH := nwn (sr (nwn (sr (sl (sl (sl (sl (nwn (sr (sl (sl (modelH3 h o n) (n + 15) 5 8902245) (n + 15) 6 3199080) o ((32 : Nat) : Int) (some (n + 15))) (n + 16) (.inr (2, 4))) (n + 16) 0 3275858099) (n + 16) 1 20317619) (n + 16) 2 206483) (n + 16) 3 67155) o ((33 : Nat) : Int) (some (n + 16))) (n + 17) (.inr (2, 13))) o ((35 : Nat) : Int) (some (n + 17))) (n + 18) (.inr (2, 13))
def modelH5 (h : AH) (o n : Nat) : AH := nwn (sr (nwn (sr (nwn (sr (nwn (sr (nwn (sr (nwn (sr (modelH4 h o n) o ((36 : Nat) : Int) (some (n + 18))) (n + 19) (.inr (2, 400))) o ((37 : Nat) : Int) (some (n + 19))) (n + 20) (.inr (0, 8))) o ((41 : Nat) : Int) (some (n + 20))) (n + 21) (.inr (0, 2304))) o ((42 : Nat) : Int) (some (n + 21))) (n + 22) (.inr (0, 25))) o ((43 : Nat) : Int) (some (n + 22))) (n + 23) (.inr (0, 8))) o ((44 : Nat) : Int) (some (n + 23))) (n + 24) (.inr (0, 7))
def modelH6 (h : AH) (o n : Nat) : AH := sr (sl (sl (sl (sl (sl (nwn (sr (nwn (sr (nwn (sr (modelH5 h o n) o ((45 : Nat) : Int) (some (n + 24))) (n + 25) (.inr (0, 8))) o ((46 : Nat) : Int) (some (n + 25))) (n + 26) (.inr (0, 8))) o ((47 : Nat) : Int) (some (n + 26))) (n + 27) (.inr (2, 5))) (n + 27) 0 404404328) (n + 27) 1 623916) (n + 27) 2 206440) (n + 27) 3 263623) (n + 27) 4 664709) o ((48 : Nat) : Int) (some (n + 27))
def modelH7 (h : AH) (o n : Nat) : AH := si (si (sr (nwn (sr (nwn (si (sr (nwn (modelH6 h o n) (n + 28) (.inr (0, 96))) o ((49 : Nat) : Int) (some (n + 28))) o ((52 : Nat) : Int) (-1)) (n + 29) (.inr (0, 16))) o ((55 : Nat) : Int) (some (n + 29))) (n + 30) (.inr (0, 25))) o ((56 : Nat) : Int) (some (n + 30))) o ((57 : Nat) : Int) (-1)) (n + 1) 4 (-1)
def modelH (h : AH) (o n : Nat) : AH := fil (modelH7 h o n) (n + 1) 39 25 10
set_option maxRecDepth 20000 in
set_option maxHeartbeats 4000000 in
theorem c_modelH {d : Nat} {Q : Option AV → AH → Prop} {h : AH} {o n : Nat} (k0 : Kd G0 h o (.inl 8)) (n0 : hn h = n) (K : Q none (modelH h o n)) : WM G0 (d + 1) 23752 mX8_init [vR (some o)] h Q := by
  have on2 : o < n := by rw [← n0]; exact (Kd0 k0).2
  refine WM_introE (loc' := [some (vR (some o)), none]) rfl (by decide) (Nat.le_of_ble_eq_true rfl) ?_
  refine J_aload_n rfl dX8_init_0 ?_
  refine J_objinit ml_RX8_1 (Nat.le_of_ble_eq_true rfl) dX8_init_1 ?_
  refine J_aload_n rfl dX8_init_4 ?_
  refine J_bipush (by decide) (by decide) dX8_init_5 ?_
  refine J_bw (b' := 23744 + (7 + 1)) (Nat.le_of_ble_eq_true rfl) ?_
  refine J_newarray0e (b := 23744) (N := 7) n0 (Nat.le_of_ble_eq_true rfl) rfl ac_i dX8_init_7 ?_
  refine J_gz (fun h1 z1 => ?_)
  have n1 : hn h1 = (n + 1) := by rw [z1]; rfl
  have k1_0 : Kd G0 h1 o (.inl 8) := by rw [z1]; exact Kd_nwn k0 n0
  refine J_putRF fl_RX8_7 (by first | exact Or.inl ⟨_, rfl⟩ | exact Or.inr ⟨_, rfl⟩) (Or.inl rfl) rfl fs_RX8_7 k1_0 dX8_init_9 ?_
  refine J_gz (fun h2 z2 => ?_)
  have n2 : hn h2 = (n + 1) := by rw [z2]; exact n1
  have k2_0 : Kd G0 h2 o (.inl 8) := by rw [z2]; exact k1_0
  clear n1 k1_0
  refine J_aload_n rfl dX8_init_12 ?_
  refine J_sipush (by decide) (by decide) dX8_init_13 ?_
  refine J_bw (b' := 18203 + (5540 + 1)) (Nat.le_of_ble_eq_true rfl) ?_
  refine J_newarray0e (b := 18203) (N := 5540) n2 (Nat.le_of_ble_eq_true rfl) rfl ac_i dX8_init_16 ?_
  refine J_gz (fun h3 z3 => ?_)
  have n3 : hn h3 = (n + 2) := by rw [z3]; rfl
  have k3_0 : Kd G0 h3 o (.inl 8) := by rw [z3]; exact Kd_nwn k2_0 n2
  have k3_1 : Kd G0 h3 (n + 1) (.inr (0, 5540)) := by rw [z3]; exact Kd_new0
  clear n2 k2_0
  refine J_putRF fl_RX8_13 (by first | exact Or.inl ⟨_, rfl⟩ | exact Or.inr ⟨_, rfl⟩) (Or.inl rfl) rfl fs_RX8_13 k3_0 dX8_init_18 ?_
  refine J_gz (fun h4 z4 => ?_)
  have n4 : hn h4 = (n + 2) := by rw [z4]; exact n3
  have k4_0 : Kd G0 h4 o (.inl 8) := by rw [z4]; exact k3_0
  have k4_1 : Kd G0 h4 (n + 1) (.inr (0, 5540)) := by rw [z4]; exact k3_1
  clear n3 k3_0 k3_1
  have r4_3 : rf h4 o ((3 : Nat) : Int) = some (n + 1) := by rw [z4, rf_sr, if_pos ⟨rfl, rfl⟩]
  refine J_aload_n rfl dX8_init_21 ?_
  refine J_sipush (by decide) (by decide) dX8_init_22 ?_
  refine J_bw (b' := 7122 + (11080 + 1)) (Nat.le_of_ble_eq_true rfl) ?_
  refine J_newarray0e (b := 7122) (N := 11080) n4 (Nat.le_of_ble_eq_true rfl) rfl ac_i dX8_init_25 ?_
  refine J_gz (fun h5 z5 => ?_)
  have n5 : hn h5 = (n + 3) := by rw [z5]; rfl
  have k5_0 : Kd G0 h5 o (.inl 8) := by rw [z5]; exact Kd_nwn k4_0 n4
  have k5_1 : Kd G0 h5 (n + 1) (.inr (0, 5540)) := by rw [z5]; exact Kd_nwn k4_1 n4
  have r5_3 : rf h5 o ((3 : Nat) : Int) = some (n + 1) := by rw [z5, rf_nwn, if_neg (ne_addN on2)]; exact r4_3
  clear n4 k4_0 k4_1 r4_3
  refine J_putRF fl_RX8_16 (by first | exact Or.inl ⟨_, rfl⟩ | exact Or.inr ⟨_, rfl⟩) (Or.inl rfl) rfl fs_RX8_16 k5_0 dX8_init_27 ?_
  refine J_gz (fun h6 z6 => ?_)
  have n6 : hn h6 = (n + 3) := by rw [z6]; exact n5
  have k6_0 : Kd G0 h6 o (.inl 8) := by rw [z6]; exact k5_0
  have k6_1 : Kd G0 h6 (n + 1) (.inr (0, 5540)) := by rw [z6]; exact k5_1
  have r6_3 : rf h6 o ((3 : Nat) : Int) = some (n + 1) := by rw [z6, rf_sr, if_neg (fun z => absurd z.2 (by decide))]; exact r5_3
  clear n5 k5_0 k5_1 r5_3
  refine J_aload_n rfl dX8_init_30 ?_
  refine J_iconst (by decide) dX8_init_31 ?_
  refine J_bw (b' := 7119 + (2 + 1)) (Nat.le_of_ble_eq_true rfl) ?_
  refine J_newarray1e (b := 7119) (N := 2) n6 (Nat.le_of_ble_eq_true rfl) rfl ac_z dX8_init_32 ?_
  refine J_gz (fun h7 z7 => ?_)
  have n7 : hn h7 = (n + 4) := by rw [z7]; rfl
  have k7_0 : Kd G0 h7 o (.inl 8) := by rw [z7]; exact Kd_nwn k6_0 n6
  have k7_1 : Kd G0 h7 (n + 1) (.inr (0, 5540)) := by rw [z7]; exact Kd_nwn k6_1 n6
  have r7_3 : rf h7 o ((3 : Nat) : Int) = some (n + 1) := by rw [z7, rf_nwn, if_neg (ne_addN on2)]; exact r6_3
  clear n6 k6_0 k6_1 r6_3
  refine J_putRF fl_RX8_19 (by first | exact Or.inl ⟨_, rfl⟩ | exact Or.inr ⟨_, rfl⟩) (Or.inl rfl) rfl fs_RX8_19 k7_0 dX8_init_34 ?_
  refine J_gz (fun h8 z8 => ?_)
  have n8 : hn h8 = (n + 4) := by rw [z8]; exact n7
  have k8_0 : Kd G0 h8 o (.inl 8) := by rw [z8]; exact k7_0
  have k8_1 : Kd G0 h8 (n + 1) (.inr (0, 5540)) := by rw [z8]; exact k7_1
  have r8_3 : rf h8 o ((3 : Nat) : Int) = some (n + 1) := by rw [z8, rf_sr, if_neg (fun z => absurd z.2 (by decide))]; exact r7_3
  clear n7 k7_0 k7_1 r7_3
  refine J_aload_n rfl dX8_init_37 ?_
  refine J_sipush (by decide) (by decide) dX8_init_38 ?_
  refine J_bw (b' := 6056 + (1062 + 1)) (Nat.le_of_ble_eq_true rfl) ?_
  refine J_newarray0e (b := 6056) (N := 1062) n8 (Nat.le_of_ble_eq_true rfl) rfl ac_i dX8_init_41 ?_
  refine J_gz (fun h9 z9 => ?_)
  have n9 : hn h9 = (n + 5) := by rw [z9]; rfl
  have k9_0 : Kd G0 h9 o (.inl 8) := by rw [z9]; exact Kd_nwn k8_0 n8
  have k9_1 : Kd G0 h9 (n + 1) (.inr (0, 5540)) := by rw [z9]; exact Kd_nwn k8_1 n8
  have r9_3 : rf h9 o ((3 : Nat) : Int) = some (n + 1) := by rw [z9, rf_nwn, if_neg (ne_addN on2)]; exact r8_3
  clear n8 k8_0 k8_1 r8_3
  refine J_putRF fl_RX8_23 (by first | exact Or.inl ⟨_, rfl⟩ | exact Or.inr ⟨_, rfl⟩) (Or.inl rfl) rfl fs_RX8_23 k9_0 dX8_init_43 ?_
  refine J_gz (fun h10 z10 => ?_)
  have n10 : hn h10 = (n + 5) := by rw [z10]; exact n9
  have k10_0 : Kd G0 h10 o (.inl 8) := by rw [z10]; exact k9_0
  have k10_1 : Kd G0 h10 (n + 1) (.inr (0, 5540)) := by rw [z10]; exact k9_1
  have r10_3 : rf h10 o ((3 : Nat) : Int) = some (n + 1) := by rw [z10, rf_sr, if_neg (fun z => absurd z.2 (by decide))]; exact r9_3
  clear n9 k9_0 k9_1 r9_3
  refine J_aload_n rfl dX8_init_46 ?_
  refine J_bipush (by decide) (by decide) dX8_init_47 ?_
  refine J_bw (b' := 6039 + (16 + 1)) (Nat.le_of_ble_eq_true rfl) ?_
  refine J_newarray0e (b := 6039) (N := 16) n10 (Nat.le_of_ble_eq_true rfl) rfl ac_i dX8_init_49 ?_
  refine J_gz (fun h11 z11 => ?_)
  have n11 : hn h11 = (n + 6) := by rw [z11]; rfl
  have k11_0 : Kd G0 h11 o (.inl 8) := by rw [z11]; exact Kd_nwn k10_0 n10
  have k11_1 : Kd G0 h11 (n + 1) (.inr (0, 5540)) := by rw [z11]; exact Kd_nwn k10_1 n10
  have r11_3 : rf h11 o ((3 : Nat) : Int) = some (n + 1) := by rw [z11, rf_nwn, if_neg (ne_addN on2)]; exact r10_3
  clear n10 k10_0 k10_1 r10_3
  refine J_putRF fl_RX8_26 (by first | exact Or.inl ⟨_, rfl⟩ | exact Or.inr ⟨_, rfl⟩) (Or.inl rfl) rfl fs_RX8_26 k11_0 dX8_init_51 ?_
  refine J_gz (fun h12 z12 => ?_)
  have n12 : hn h12 = (n + 6) := by rw [z12]; exact n11
  have k12_0 : Kd G0 h12 o (.inl 8) := by rw [z12]; exact k11_0
  have k12_1 : Kd G0 h12 (n + 1) (.inr (0, 5540)) := by rw [z12]; exact k11_1
  have r12_3 : rf h12 o ((3 : Nat) : Int) = some (n + 1) := by rw [z12, rf_sr, if_neg (fun z => absurd z.2 (by decide))]; exact r11_3
  clear n11 k11_0 k11_1 r11_3
  refine J_aload_n rfl dX8_init_54 ?_
  refine J_sipush (by decide) (by decide) dX8_init_55 ?_
  refine J_bw (b' := 5094 + (944 + 1)) (Nat.le_of_ble_eq_true rfl) ?_
  refine J_newarray0e (b := 5094) (N := 944) n12 (Nat.le_of_ble_eq_true rfl) rfl ac_i dX8_init_58 ?_
  refine J_gz (fun h13 z13 => ?_)
  have n13 : hn h13 = (n + 7) := by rw [z13]; rfl
  have k13_0 : Kd G0 h13 o (.inl 8) := by rw [z13]; exact Kd_nwn k12_0 n12
  have k13_1 : Kd G0 h13 (n + 1) (.inr (0, 5540)) := by rw [z13]; exact Kd_nwn k12_1 n12
  have r13_3 : rf h13 o ((3 : Nat) : Int) = some (n + 1) := by rw [z13, rf_nwn, if_neg (ne_addN on2)]; exact r12_3
  clear n12 k12_0 k12_1 r12_3
  refine J_putRF fl_RX8_29 (by first | exact Or.inl ⟨_, rfl⟩ | exact Or.inr ⟨_, rfl⟩) (Or.inl rfl) rfl fs_RX8_29 k13_0 dX8_init_60 ?_
  refine J_gz (fun h14 z14 => ?_)
  have n14 : hn h14 = (n + 7) := by rw [z14]; exact n13
  have k14_0 : Kd G0 h14 o (.inl 8) := by rw [z14]; exact k13_0
  have k14_1 : Kd G0 h14 (n + 1) (.inr (0, 5540)) := by rw [z14]; exact k13_1
  have r14_3 : rf h14 o ((3 : Nat) : Int) = some (n + 1) := by rw [z14, rf_sr, if_neg (fun z => absurd z.2 (by decide))]; exact r13_3
  clear n13 k13_0 k13_1 r13_3
  refine J_aload_n rfl dX8_init_63 ?_
  refine J_bipush (by decide) (by decide) dX8_init_64 ?_
  refine J_bw (b' := 5077 + (16 + 1)) (Nat.le_of_ble_eq_true rfl) ?_
  refine J_newarray0e (b := 5077) (N := 16) n14 (Nat.le_of_ble_eq_true rfl) rfl ac_i dX8_init_66 ?_
  refine J_gz (fun h15 z15 => ?_)
  have n15 : hn h15 = (n + 8) := by rw [z15]; rfl
  have k15_0 : Kd G0 h15 o (.inl 8) := by rw [z15]; exact Kd_nwn k14_0 n14
  have k15_1 : Kd G0 h15 (n + 1) (.inr (0, 5540)) := by rw [z15]; exact Kd_nwn k14_1 n14
  have r15_3 : rf h15 o ((3 : Nat) : Int) = some (n + 1) := by rw [z15, rf_nwn, if_neg (ne_addN on2)]; exact r14_3
  clear n14 k14_0 k14_1 r14_3
  refine J_putRF fl_RX8_32 (by first | exact Or.inl ⟨_, rfl⟩ | exact Or.inr ⟨_, rfl⟩) (Or.inl rfl) rfl fs_RX8_32 k15_0 dX8_init_68 ?_
  refine J_gz (fun h16 z16 => ?_)
  have n16 : hn h16 = (n + 8) := by rw [z16]; exact n15
  have k16_0 : Kd G0 h16 o (.inl 8) := by rw [z16]; exact k15_0
  have k16_1 : Kd G0 h16 (n + 1) (.inr (0, 5540)) := by rw [z16]; exact k15_1
  have r16_3 : rf h16 o ((3 : Nat) : Int) = some (n + 1) := by rw [z16, rf_sr, if_neg (fun z => absurd z.2 (by decide))]; exact r15_3
  clear n15 k15_0 k15_1 r15_3
  refine J_aload_n rfl dX8_init_71 ?_
  refine J_sipush (by decide) (by decide) dX8_init_72 ?_
  refine J_bw (b' := 4676 + (400 + 1)) (Nat.le_of_ble_eq_true rfl) ?_
  refine J_newarray0e (b := 4676) (N := 400) n16 (Nat.le_of_ble_eq_true rfl) rfl ac_i dX8_init_75 ?_
  refine J_gz (fun h17 z17 => ?_)
  have n17 : hn h17 = (n + 9) := by rw [z17]; rfl
  have k17_0 : Kd G0 h17 o (.inl 8) := by rw [z17]; exact Kd_nwn k16_0 n16
  have k17_1 : Kd G0 h17 (n + 1) (.inr (0, 5540)) := by rw [z17]; exact Kd_nwn k16_1 n16
  have r17_3 : rf h17 o ((3 : Nat) : Int) = some (n + 1) := by rw [z17, rf_nwn, if_neg (ne_addN on2)]; exact r16_3
  clear n16 k16_0 k16_1 r16_3
  refine J_putRF fl_RX8_35 (by first | exact Or.inl ⟨_, rfl⟩ | exact Or.inr ⟨_, rfl⟩) (Or.inl rfl) rfl fs_RX8_35 k17_0 dX8_init_77 ?_
  refine J_gz (fun h18 z18 => ?_)
  have n18 : hn h18 = (n + 9) := by rw [z18]; exact n17
  have k18_0 : Kd G0 h18 o (.inl 8) := by rw [z18]; exact k17_0
  have k18_1 : Kd G0 h18 (n + 1) (.inr (0, 5540)) := by rw [z18]; exact k17_1
  have r18_3 : rf h18 o ((3 : Nat) : Int) = some (n + 1) := by rw [z18, rf_sr, if_neg (fun z => absurd z.2 (by decide))]; exact r17_3
  clear n17 k17_0 k17_1 r17_3
  refine J_aload_n rfl dX8_init_80 ?_
  refine J_iconst (by decide) dX8_init_81 ?_
  refine J_putI fl_RX8_38 rfl k18_0 dX8_init_82 ?_
  refine J_gz (fun h19 z19 => ?_)
  have n19 : hn h19 = (n + 9) := by rw [z19]; exact n18
  have k19_0 : Kd G0 h19 o (.inl 8) := by rw [z19]; exact k18_0
  have k19_1 : Kd G0 h19 (n + 1) (.inr (0, 5540)) := by rw [z19]; exact k18_1
  have r19_3 : rf h19 o ((3 : Nat) : Int) = some (n + 1) := by rw [z19]; exact r18_3
  clear n18 k18_0 k18_1 r18_3
  refine J_aload_n rfl dX8_init_85 ?_
  refine J_bipush (by decide) (by decide) dX8_init_86 ?_
  refine J_bw (b' := 4579 + (96 + 1)) (Nat.le_of_ble_eq_true rfl) ?_
  refine J_newarray0e (b := 4579) (N := 96) n19 (Nat.le_of_ble_eq_true rfl) rfl ac_i dX8_init_88 ?_
  refine J_gz (fun h20 z20 => ?_)
  have n20 : hn h20 = (n + 10) := by rw [z20]; rfl
  have k20_0 : Kd G0 h20 o (.inl 8) := by rw [z20]; exact Kd_nwn k19_0 n19
  have k20_1 : Kd G0 h20 (n + 1) (.inr (0, 5540)) := by rw [z20]; exact Kd_nwn k19_1 n19
  have r20_3 : rf h20 o ((3 : Nat) : Int) = some (n + 1) := by rw [z20, rf_nwn, if_neg (ne_addN on2)]; exact r19_3
  clear n19 k19_0 k19_1 r19_3
  refine J_putRF fl_RX8_42 (by first | exact Or.inl ⟨_, rfl⟩ | exact Or.inr ⟨_, rfl⟩) (Or.inl rfl) rfl fs_RX8_42 k20_0 dX8_init_90 ?_
  refine J_gz (fun h21 z21 => ?_)
  have n21 : hn h21 = (n + 10) := by rw [z21]; exact n20
  have k21_0 : Kd G0 h21 o (.inl 8) := by rw [z21]; exact k20_0
  have k21_1 : Kd G0 h21 (n + 1) (.inr (0, 5540)) := by rw [z21]; exact k20_1
  have r21_3 : rf h21 o ((3 : Nat) : Int) = some (n + 1) := by rw [z21, rf_sr, if_neg (fun z => absurd z.2 (by decide))]; exact r20_3
  clear n20 k20_0 k20_1 r20_3
  refine J_aload_n rfl dX8_init_93 ?_
  refine J_sipush (by decide) (by decide) dX8_init_94 ?_
  refine J_bw (b' := 4178 + (400 + 1)) (Nat.le_of_ble_eq_true rfl) ?_
  refine J_newarray0e (b := 4178) (N := 400) n21 (Nat.le_of_ble_eq_true rfl) rfl ac_i dX8_init_97 ?_
  refine J_gz (fun h22 z22 => ?_)
  have n22 : hn h22 = (n + 11) := by rw [z22]; rfl
  have k22_0 : Kd G0 h22 o (.inl 8) := by rw [z22]; exact Kd_nwn k21_0 n21
  have k22_1 : Kd G0 h22 (n + 1) (.inr (0, 5540)) := by rw [z22]; exact Kd_nwn k21_1 n21
  have r22_3 : rf h22 o ((3 : Nat) : Int) = some (n + 1) := by rw [z22, rf_nwn, if_neg (ne_addN on2)]; exact r21_3
  clear n21 k21_0 k21_1 r21_3
  refine J_putRF fl_RX8_45 (by first | exact Or.inl ⟨_, rfl⟩ | exact Or.inr ⟨_, rfl⟩) (Or.inl rfl) rfl fs_RX8_45 k22_0 dX8_init_99 ?_
  refine J_gz (fun h23 z23 => ?_)
  have n23 : hn h23 = (n + 11) := by rw [z23]; exact n22
  have k23_0 : Kd G0 h23 o (.inl 8) := by rw [z23]; exact k22_0
  have k23_1 : Kd G0 h23 (n + 1) (.inr (0, 5540)) := by rw [z23]; exact k22_1
  have r23_3 : rf h23 o ((3 : Nat) : Int) = some (n + 1) := by rw [z23, rf_sr, if_neg (fun z => absurd z.2 (by decide))]; exact r22_3
  clear n22 k22_0 k22_1 r22_3
  refine J_aload_n rfl dX8_init_102 ?_
  refine J_sipush (by decide) (by decide) dX8_init_103 ?_
  refine J_bw (b' := 3777 + (400 + 1)) (Nat.le_of_ble_eq_true rfl) ?_
  refine J_newarray0e (b := 3777) (N := 400) n23 (Nat.le_of_ble_eq_true rfl) rfl ac_i dX8_init_106 ?_
  refine J_gz (fun h24 z24 => ?_)
  have n24 : hn h24 = (n + 12) := by rw [z24]; rfl
  have k24_0 : Kd G0 h24 o (.inl 8) := by rw [z24]; exact Kd_nwn k23_0 n23
  have k24_1 : Kd G0 h24 (n + 1) (.inr (0, 5540)) := by rw [z24]; exact Kd_nwn k23_1 n23
  have r24_3 : rf h24 o ((3 : Nat) : Int) = some (n + 1) := by rw [z24, rf_nwn, if_neg (ne_addN on2)]; exact r23_3
  clear n23 k23_0 k23_1 r23_3
  refine J_putRF fl_RX8_48 (by first | exact Or.inl ⟨_, rfl⟩ | exact Or.inr ⟨_, rfl⟩) (Or.inl rfl) rfl fs_RX8_48 k24_0 dX8_init_108 ?_
  refine J_gz (fun h25 z25 => ?_)
  have n25 : hn h25 = (n + 12) := by rw [z25]; exact n24
  have k25_0 : Kd G0 h25 o (.inl 8) := by rw [z25]; exact k24_0
  have k25_1 : Kd G0 h25 (n + 1) (.inr (0, 5540)) := by rw [z25]; exact k24_1
  have r25_3 : rf h25 o ((3 : Nat) : Int) = some (n + 1) := by rw [z25, rf_sr, if_neg (fun z => absurd z.2 (by decide))]; exact r24_3
  clear n24 k24_0 k24_1 r24_3
  refine J_aload_n rfl dX8_init_111 ?_
  refine J_sipush (by decide) (by decide) dX8_init_112 ?_
  refine J_bw (b' := 3376 + (400 + 1)) (Nat.le_of_ble_eq_true rfl) ?_
  refine J_newarray0e (b := 3376) (N := 400) n25 (Nat.le_of_ble_eq_true rfl) rfl ac_i dX8_init_115 ?_
  refine J_gz (fun h26 z26 => ?_)
  have n26 : hn h26 = (n + 13) := by rw [z26]; rfl
  have k26_0 : Kd G0 h26 o (.inl 8) := by rw [z26]; exact Kd_nwn k25_0 n25
  have k26_1 : Kd G0 h26 (n + 1) (.inr (0, 5540)) := by rw [z26]; exact Kd_nwn k25_1 n25
  have r26_3 : rf h26 o ((3 : Nat) : Int) = some (n + 1) := by rw [z26, rf_nwn, if_neg (ne_addN on2)]; exact r25_3
  clear n25 k25_0 k25_1 r25_3
  refine J_putRF fl_RX8_51 (by first | exact Or.inl ⟨_, rfl⟩ | exact Or.inr ⟨_, rfl⟩) (Or.inl rfl) rfl fs_RX8_51 k26_0 dX8_init_117 ?_
  refine J_gz (fun h27 z27 => ?_)
  have n27 : hn h27 = (n + 13) := by rw [z27]; exact n26
  have k27_0 : Kd G0 h27 o (.inl 8) := by rw [z27]; exact k26_0
  have k27_1 : Kd G0 h27 (n + 1) (.inr (0, 5540)) := by rw [z27]; exact k26_1
  have r27_3 : rf h27 o ((3 : Nat) : Int) = some (n + 1) := by rw [z27, rf_sr, if_neg (fun z => absurd z.2 (by decide))]; exact r26_3
  clear n26 k26_0 k26_1 r26_3
  refine J_aload_n rfl dX8_init_120 ?_
  refine J_sipush (by decide) (by decide) dX8_init_121 ?_
  refine J_bw (b' := 2975 + (400 + 1)) (Nat.le_of_ble_eq_true rfl) ?_
  refine J_newarray0e (b := 2975) (N := 400) n27 (Nat.le_of_ble_eq_true rfl) rfl ac_i dX8_init_124 ?_
  refine J_gz (fun h28 z28 => ?_)
  have n28 : hn h28 = (n + 14) := by rw [z28]; rfl
  have k28_0 : Kd G0 h28 o (.inl 8) := by rw [z28]; exact Kd_nwn k27_0 n27
  have k28_1 : Kd G0 h28 (n + 1) (.inr (0, 5540)) := by rw [z28]; exact Kd_nwn k27_1 n27
  have r28_3 : rf h28 o ((3 : Nat) : Int) = some (n + 1) := by rw [z28, rf_nwn, if_neg (ne_addN on2)]; exact r27_3
  clear n27 k27_0 k27_1 r27_3
  refine J_putRF fl_RX8_54 (by first | exact Or.inl ⟨_, rfl⟩ | exact Or.inr ⟨_, rfl⟩) (Or.inl rfl) rfl fs_RX8_54 k28_0 dX8_init_126 ?_
  refine J_gz (fun h29 z29 => ?_)
  have n29 : hn h29 = (n + 14) := by rw [z29]; exact n28
  have k29_0 : Kd G0 h29 o (.inl 8) := by rw [z29]; exact k28_0
  have k29_1 : Kd G0 h29 (n + 1) (.inr (0, 5540)) := by rw [z29]; exact k28_1
  have r29_3 : rf h29 o ((3 : Nat) : Int) = some (n + 1) := by rw [z29, rf_sr, if_neg (fun z => absurd z.2 (by decide))]; exact r28_3
  clear n28 k28_0 k28_1 r28_3
  refine J_aload_n rfl dX8_init_129 ?_
  refine J_bipush (by decide) (by decide) dX8_init_130 ?_
  refine J_bw (b' := 2963 + (11 + 1)) (Nat.le_of_ble_eq_true rfl) ?_
  refine J_newarray2e (b := 2963) (N := 11) n29 (Nat.le_of_ble_eq_true rfl) rfl ac_l dX8_init_132 ?_
  refine J_gz (fun h30 z30 => ?_)
  have n30 : hn h30 = (n + 15) := by rw [z30]; rfl
  have k30_0 : Kd G0 h30 o (.inl 8) := by rw [z30]; exact Kd_nwn k29_0 n29
  have k30_1 : Kd G0 h30 (n + 1) (.inr (0, 5540)) := by rw [z30]; exact Kd_nwn k29_1 n29
  have k30_2 : Kd G0 h30 (n + 14) (.inr (2, 11)) := by rw [z30]; exact Kd_new0
  have r30_3 : rf h30 o ((3 : Nat) : Int) = some (n + 1) := by rw [z30, rf_nwn, if_neg (ne_addN on2)]; exact r29_3
  clear n29 k29_0 k29_1 r29_3
  refine J_dup rfl dX8_init_134 ?_
  refine J_iconst (by decide) dX8_init_135 ?_
  refine J_ldc2 (n := 146930) (by decide) (by decide) kc_RX8_57 dX8_init_136 ?_
  refine J_lastore k30_2 (by decide) dX8_init_139 ?_
  refine J_gz (fun h31 z31 => ?_)
  have n31 : hn h31 = (n + 15) := by rw [z31]; exact n30
  have k31_0 : Kd G0 h31 o (.inl 8) := by rw [z31]; exact k30_0
  have k31_1 : Kd G0 h31 (n + 1) (.inr (0, 5540)) := by rw [z31]; exact k30_1
  have k31_2 : Kd G0 h31 (n + 14) (.inr (2, 11)) := by rw [z31]; exact k30_2
  have r31_3 : rf h31 o ((3 : Nat) : Int) = some (n + 1) := by rw [z31]; exact r30_3
  clear n30 k30_0 k30_1 k30_2 r30_3
  refine J_dup rfl dX8_init_140 ?_
  refine J_iconst (by decide) dX8_init_141 ?_
  refine J_ldc2 (n := 763013) (by decide) (by decide) kc_RX8_59 dX8_init_142 ?_
  refine J_lastore k31_2 (by decide) dX8_init_145 ?_
  refine J_gz (fun h32 z32 => ?_)
  have n32 : hn h32 = (n + 15) := by rw [z32]; exact n31
  have k32_0 : Kd G0 h32 o (.inl 8) := by rw [z32]; exact k31_0
  have k32_1 : Kd G0 h32 (n + 1) (.inr (0, 5540)) := by rw [z32]; exact k31_1
  have k32_2 : Kd G0 h32 (n + 14) (.inr (2, 11)) := by rw [z32]; exact k31_2
  have r32_3 : rf h32 o ((3 : Nat) : Int) = some (n + 1) := by rw [z32]; exact r31_3
  clear n31 k31_0 k31_1 k31_2 r31_3
  refine J_dup rfl dX8_init_146 ?_
  refine J_iconst (by decide) dX8_init_147 ?_
  refine J_ldc2 (n := 769508) (by decide) (by decide) kc_RX8_61 dX8_init_148 ?_
  refine J_lastore k32_2 (by decide) dX8_init_151 ?_
  refine J_gz (fun h33 z33 => ?_)
  have n33 : hn h33 = (n + 15) := by rw [z33]; exact n32
  have k33_0 : Kd G0 h33 o (.inl 8) := by rw [z33]; exact k32_0
  have k33_1 : Kd G0 h33 (n + 1) (.inr (0, 5540)) := by rw [z33]; exact k32_1
  have k33_2 : Kd G0 h33 (n + 14) (.inr (2, 11)) := by rw [z33]; exact k32_2
  have r33_3 : rf h33 o ((3 : Nat) : Int) = some (n + 1) := by rw [z33]; exact r32_3
  clear n32 k32_0 k32_1 k32_2 r32_3
  refine J_dup rfl dX8_init_152 ?_
  refine J_iconst (by decide) dX8_init_153 ?_
  refine J_ldc2 (n := 277925) (by decide) (by decide) kc_RX8_63 dX8_init_154 ?_
  refine J_lastore k33_2 (by decide) dX8_init_157 ?_
  refine J_gz (fun h34 z34 => ?_)
  have n34 : hn h34 = (n + 15) := by rw [z34]; exact n33
  have k34_0 : Kd G0 h34 o (.inl 8) := by rw [z34]; exact k33_0
  have k34_1 : Kd G0 h34 (n + 1) (.inr (0, 5540)) := by rw [z34]; exact k33_1
  have k34_2 : Kd G0 h34 (n + 14) (.inr (2, 11)) := by rw [z34]; exact k33_2
  have r34_3 : rf h34 o ((3 : Nat) : Int) = some (n + 1) := by rw [z34]; exact r33_3
  clear n33 k33_0 k33_1 k33_2 r33_3
  refine J_dup rfl dX8_init_158 ?_
  refine J_iconst (by decide) dX8_init_159 ?_
  refine J_ldc2 (n := 8902245) (by decide) (by decide) kc_RX8_65 dX8_init_160 ?_
  refine J_lastore k34_2 (by decide) dX8_init_163 ?_
  refine J_gz (fun h35 z35 => ?_)
  have n35 : hn h35 = (n + 15) := by rw [z35]; exact n34
  have k35_0 : Kd G0 h35 o (.inl 8) := by rw [z35]; exact k34_0
  have k35_1 : Kd G0 h35 (n + 1) (.inr (0, 5540)) := by rw [z35]; exact k34_1
  have k35_2 : Kd G0 h35 (n + 14) (.inr (2, 11)) := by rw [z35]; exact k34_2
  have r35_3 : rf h35 o ((3 : Nat) : Int) = some (n + 1) := by rw [z35]; exact r34_3
  clear n34 k34_0 k34_1 k34_2 r34_3
  refine J_dup rfl dX8_init_164 ?_
  refine J_iconst (by decide) dX8_init_165 ?_
  refine J_ldc2 (n := 632645) (by decide) (by decide) kc_RX8_67 dX8_init_166 ?_
  refine J_lastore k35_2 (by decide) dX8_init_169 ?_
  refine J_gz (fun h36 z36 => ?_)
  have n36 : hn h36 = (n + 15) := by rw [z36]; exact n35
  have k36_0 : Kd G0 h36 o (.inl 8) := by rw [z36]; exact k35_0
  have k36_1 : Kd G0 h36 (n + 1) (.inr (0, 5540)) := by rw [z36]; exact k35_1
  have k36_2 : Kd G0 h36 (n + 14) (.inr (2, 11)) := by rw [z36]; exact k35_2
  have r36_3 : rf h36 o ((3 : Nat) : Int) = some (n + 1) := by rw [z36]; exact r35_3
  clear n35 k35_0 k35_1 k35_2 r35_3
  refine J_dup rfl dX8_init_170 ?_
  refine J_bipush (by decide) (by decide) dX8_init_171 ?_
  refine J_ldc2 (n := 103820) (by decide) (by decide) kc_RX8_69 dX8_init_173 ?_
  refine J_lastore k36_2 (by decide) dX8_init_176 ?_
  refine J_gz (fun h37 z37 => ?_)
  have n37 : hn h37 = (n + 15) := by rw [z37]; exact n36
  have k37_0 : Kd G0 h37 o (.inl 8) := by rw [z37]; exact k36_0
  have k37_1 : Kd G0 h37 (n + 1) (.inr (0, 5540)) := by rw [z37]; exact k36_1
  have k37_2 : Kd G0 h37 (n + 14) (.inr (2, 11)) := by rw [z37]; exact k36_2
  have r37_3 : rf h37 o ((3 : Nat) : Int) = some (n + 1) := by rw [z37]; exact r36_3
  clear n36 k36_0 k36_1 k36_2 r36_3
  refine J_dup rfl dX8_init_177 ?_
  refine J_bipush (by decide) (by decide) dX8_init_178 ?_
  refine J_ldc2 (n := 206440) (by decide) (by decide) kc_RX8_71 dX8_init_180 ?_
  refine J_lastore k37_2 (by decide) dX8_init_183 ?_
  refine J_gz (fun h38 z38 => ?_)
  have n38 : hn h38 = (n + 15) := by rw [z38]; exact n37
  have k38_0 : Kd G0 h38 o (.inl 8) := by rw [z38]; exact k37_0
  have k38_1 : Kd G0 h38 (n + 1) (.inr (0, 5540)) := by rw [z38]; exact k37_1
  have k38_2 : Kd G0 h38 (n + 14) (.inr (2, 11)) := by rw [z38]; exact k37_2
  have r38_3 : rf h38 o ((3 : Nat) : Int) = some (n + 1) := by rw [z38]; exact r37_3
  clear n37 k37_0 k37_1 k37_2 r37_3
  refine J_dup rfl dX8_init_184 ?_
  refine J_bipush (by decide) (by decide) dX8_init_185 ?_
  refine J_ldc2 (n := 3199080) (by decide) (by decide) kc_RX8_73 dX8_init_187 ?_
  refine J_lastore k38_2 (by decide) dX8_init_190 ?_
  refine J_gz (fun h39 z39 => ?_)
  have n39 : hn h39 = (n + 15) := by rw [z39]; exact n38
  have k39_0 : Kd G0 h39 o (.inl 8) := by rw [z39]; exact k38_0
  have k39_1 : Kd G0 h39 (n + 1) (.inr (0, 5540)) := by rw [z39]; exact k38_1
  have k39_2 : Kd G0 h39 (n + 14) (.inr (2, 11)) := by rw [z39]; exact k38_2
  have r39_3 : rf h39 o ((3 : Nat) : Int) = some (n + 1) := by rw [z39]; exact r38_3
  clear n38 k38_0 k38_1 k38_2 r38_3
  refine J_dup rfl dX8_init_191 ?_
  refine J_bipush (by decide) (by decide) dX8_init_192 ?_
  refine J_ldc2 (n := 4153) (by decide) (by decide) kc_RX8_75 dX8_init_194 ?_
  refine J_lastore k39_2 (by decide) dX8_init_197 ?_
  refine J_gz (fun h40 z40 => ?_)
  have n40 : hn h40 = (n + 15) := by rw [z40]; exact n39
  have k40_0 : Kd G0 h40 o (.inl 8) := by rw [z40]; exact k39_0
  have k40_1 : Kd G0 h40 (n + 1) (.inr (0, 5540)) := by rw [z40]; exact k39_1
  have k40_2 : Kd G0 h40 (n + 14) (.inr (2, 11)) := by rw [z40]; exact k39_2
  have r40_3 : rf h40 o ((3 : Nat) : Int) = some (n + 1) := by rw [z40]; exact r39_3
  clear n39 k39_0 k39_1 k39_2 r39_3
  refine J_dup rfl dX8_init_198 ?_
  refine J_bipush (by decide) (by decide) dX8_init_199 ?_
  refine J_ldc2 (n := 441828) (by decide) (by decide) kc_RX8_77 dX8_init_201 ?_
  refine J_lastore k40_2 (by decide) dX8_init_204 ?_
  refine J_gz (fun h41 z41 => ?_)
  have n41 : hn h41 = (n + 15) := by rw [z41]; exact n40
  have k41_0 : Kd G0 h41 o (.inl 8) := by rw [z41]; exact k40_0
  have k41_1 : Kd G0 h41 (n + 1) (.inr (0, 5540)) := by rw [z41]; exact k40_1
  have k41_2 : Kd G0 h41 (n + 14) (.inr (2, 11)) := by rw [z41]; exact k40_2
  have r41_3 : rf h41 o ((3 : Nat) : Int) = some (n + 1) := by rw [z41]; exact r40_3
  clear n40 k40_0 k40_1 k40_2 r40_3
  refine J_putRF fl_RX8_79 (by first | exact Or.inl ⟨_, rfl⟩ | exact Or.inr ⟨_, rfl⟩) (Or.inl rfl) rfl fs_RX8_79 k41_0 dX8_init_205 ?_
  refine J_gz (fun h42 z42 => ?_)
  have n42 : hn h42 = (n + 15) := by rw [z42]; exact n41
  have k42_0 : Kd G0 h42 o (.inl 8) := by rw [z42]; exact k41_0
  have k42_1 : Kd G0 h42 (n + 1) (.inr (0, 5540)) := by rw [z42]; exact k41_1
  have k42_2 : Kd G0 h42 (n + 14) (.inr (2, 11)) := by rw [z42]; exact k41_2
  have r42_3 : rf h42 o ((3 : Nat) : Int) = some (n + 1) := by rw [z42, rf_sr, if_neg (fun z => absurd z.2 (by decide))]; exact r41_3
  clear n41 k41_0 k41_1 k41_2 r41_3
  refine J_aload_n rfl dX8_init_208 ?_
  refine J_bipush (by decide) (by decide) dX8_init_209 ?_
  refine J_bw (b' := 2955 + (7 + 1)) (Nat.le_of_ble_eq_true rfl) ?_
  refine J_newarray2e (b := 2955) (N := 7) n42 (Nat.le_of_ble_eq_true rfl) rfl ac_l dX8_init_211 ?_
  refine J_gz (fun h43 z43 => ?_)
  have n43 : hn h43 = (n + 16) := by rw [z43]; rfl
  have k43_0 : Kd G0 h43 o (.inl 8) := by rw [z43]; exact Kd_nwn k42_0 n42
  have k43_1 : Kd G0 h43 (n + 1) (.inr (0, 5540)) := by rw [z43]; exact Kd_nwn k42_1 n42
  have k43_3 : Kd G0 h43 (n + 15) (.inr (2, 7)) := by rw [z43]; exact Kd_new0
  have r43_3 : rf h43 o ((3 : Nat) : Int) = some (n + 1) := by rw [z43, rf_nwn, if_neg (ne_addN on2)]; exact r42_3
  clear n42 k42_0 k42_1 r42_3
  refine J_dup rfl dX8_init_213 ?_
  refine J_iconst (by decide) dX8_init_214 ?_
  refine J_ldc2 (n := 4153) (by decide) (by decide) kc_RX8_75 dX8_init_215 ?_
  refine J_lastore k43_3 (by decide) dX8_init_218 ?_
  refine J_gz (fun h44 z44 => ?_)
  have n44 : hn h44 = (n + 16) := by rw [z44]; exact n43
  have k44_0 : Kd G0 h44 o (.inl 8) := by rw [z44]; exact k43_0
  have k44_1 : Kd G0 h44 (n + 1) (.inr (0, 5540)) := by rw [z44]; exact k43_1
  have k44_3 : Kd G0 h44 (n + 15) (.inr (2, 7)) := by rw [z44]; exact k43_3
  have r44_3 : rf h44 o ((3 : Nat) : Int) = some (n + 1) := by rw [z44]; exact r43_3
  clear n43 k43_0 k43_1 k43_3 r43_3
  refine J_dup rfl dX8_init_219 ?_
  refine J_iconst (by decide) dX8_init_220 ?_
  refine J_ldc2 (n := 146885) (by decide) (by decide) kc_RX8_83 dX8_init_221 ?_
  refine J_lastore k44_3 (by decide) dX8_init_224 ?_
  refine J_gz (fun h45 z45 => ?_)
  have n45 : hn h45 = (n + 16) := by rw [z45]; exact n44
  have k45_0 : Kd G0 h45 o (.inl 8) := by rw [z45]; exact k44_0
  have k45_1 : Kd G0 h45 (n + 1) (.inr (0, 5540)) := by rw [z45]; exact k44_1
  have k45_3 : Kd G0 h45 (n + 15) (.inr (2, 7)) := by rw [z45]; exact k44_3
  have r45_3 : rf h45 o ((3 : Nat) : Int) = some (n + 1) := by rw [z45]; exact r44_3
  clear n44 k44_0 k44_1 k44_3 r44_3
  refine J_dup rfl dX8_init_225 ?_
  refine J_iconst (by decide) dX8_init_226 ?_
  refine J_ldc2 (n := 404362868) (by decide) (by decide) kc_RX8_85 dX8_init_227 ?_
  refine J_lastore k45_3 (by decide) dX8_init_230 ?_
  refine J_gz (fun h46 z46 => ?_)
  have n46 : hn h46 = (n + 16) := by rw [z46]; exact n45
  have k46_0 : Kd G0 h46 o (.inl 8) := by rw [z46]; exact k45_0
  have k46_1 : Kd G0 h46 (n + 1) (.inr (0, 5540)) := by rw [z46]; exact k45_1
  have k46_3 : Kd G0 h46 (n + 15) (.inr (2, 7)) := by rw [z46]; exact k45_3
  have r46_3 : rf h46 o ((3 : Nat) : Int) = some (n + 1) := by rw [z46]; exact r45_3
  clear n45 k45_0 k45_1 k45_3 r45_3
  refine J_dup rfl dX8_init_231 ?_
  refine J_iconst (by decide) dX8_init_232 ?_
  refine J_ldc2 (n := 508078) (by decide) (by decide) kc_RX8_87 dX8_init_233 ?_
  refine J_lastore k46_3 (by decide) dX8_init_236 ?_
  refine J_gz (fun h47 z47 => ?_)
  have n47 : hn h47 = (n + 16) := by rw [z47]; exact n46
  have k47_0 : Kd G0 h47 o (.inl 8) := by rw [z47]; exact k46_0
  have k47_1 : Kd G0 h47 (n + 1) (.inr (0, 5540)) := by rw [z47]; exact k46_1
  have k47_3 : Kd G0 h47 (n + 15) (.inr (2, 7)) := by rw [z47]; exact k46_3
  have r47_3 : rf h47 o ((3 : Nat) : Int) = some (n + 1) := by rw [z47]; exact r46_3
  clear n46 k46_0 k46_1 k46_3 r46_3
  refine J_dup rfl dX8_init_237 ?_
  refine J_iconst (by decide) dX8_init_238 ?_
  refine J_ldc2 (n := 52) (by decide) (by decide) kc_RX8_89 dX8_init_239 ?_
  refine J_lastore k47_3 (by decide) dX8_init_242 ?_
  refine J_gz (fun h48 z48 => ?_)
  have n48 : hn h48 = (n + 16) := by rw [z48]; exact n47
  have k48_0 : Kd G0 h48 o (.inl 8) := by rw [z48]; exact k47_0
  have k48_1 : Kd G0 h48 (n + 1) (.inr (0, 5540)) := by rw [z48]; exact k47_1
  have k48_3 : Kd G0 h48 (n + 15) (.inr (2, 7)) := by rw [z48]; exact k47_3
  have r48_3 : rf h48 o ((3 : Nat) : Int) = some (n + 1) := by rw [z48]; exact r47_3
  clear n47 k47_0 k47_1 k47_3 r47_3
  refine J_dup rfl dX8_init_243 ?_
  refine J_iconst (by decide) dX8_init_244 ?_
  refine J_ldc2 (n := 8902245) (by decide) (by decide) kc_RX8_65 dX8_init_245 ?_
  refine J_lastore k48_3 (by decide) dX8_init_248 ?_
  refine J_gz (fun h49 z49 => ?_)
  have n49 : hn h49 = (n + 16) := by rw [z49]; exact n48
  have k49_0 : Kd G0 h49 o (.inl 8) := by rw [z49]; exact k48_0
  have k49_1 : Kd G0 h49 (n + 1) (.inr (0, 5540)) := by rw [z49]; exact k48_1
  have k49_3 : Kd G0 h49 (n + 15) (.inr (2, 7)) := by rw [z49]; exact k48_3
  have r49_3 : rf h49 o ((3 : Nat) : Int) = some (n + 1) := by rw [z49]; exact r48_3
  clear n48 k48_0 k48_1 k48_3 r48_3
  refine J_dup rfl dX8_init_249 ?_
  refine J_bipush (by decide) (by decide) dX8_init_250 ?_
  refine J_ldc2 (n := 3199080) (by decide) (by decide) kc_RX8_73 dX8_init_252 ?_
  refine J_lastore k49_3 (by decide) dX8_init_255 ?_
  refine J_gz (fun h50 z50 => ?_)
  have n50 : hn h50 = (n + 16) := by rw [z50]; exact n49
  have k50_0 : Kd G0 h50 o (.inl 8) := by rw [z50]; exact k49_0
  have k50_1 : Kd G0 h50 (n + 1) (.inr (0, 5540)) := by rw [z50]; exact k49_1
  have k50_3 : Kd G0 h50 (n + 15) (.inr (2, 7)) := by rw [z50]; exact k49_3
  have r50_3 : rf h50 o ((3 : Nat) : Int) = some (n + 1) := by rw [z50]; exact r49_3
  clear n49 k49_0 k49_1 k49_3 r49_3
  refine J_putRF fl_RX8_91 (by first | exact Or.inl ⟨_, rfl⟩ | exact Or.inr ⟨_, rfl⟩) (Or.inl rfl) rfl fs_RX8_91 k50_0 dX8_init_256 ?_
  refine J_gz (fun h51 z51 => ?_)
  have n51 : hn h51 = (n + 16) := by rw [z51]; exact n50
  have k51_0 : Kd G0 h51 o (.inl 8) := by rw [z51]; exact k50_0
  have k51_1 : Kd G0 h51 (n + 1) (.inr (0, 5540)) := by rw [z51]; exact k50_1
  have k51_3 : Kd G0 h51 (n + 15) (.inr (2, 7)) := by rw [z51]; exact k50_3
  have r51_3 : rf h51 o ((3 : Nat) : Int) = some (n + 1) := by rw [z51, rf_sr, if_neg (fun z => absurd z.2 (by decide))]; exact r50_3
  clear n50 k50_0 k50_1 k50_3 r50_3
  refine J_aload_n rfl dX8_init_259 ?_
  refine J_iconst (by decide) dX8_init_260 ?_
  refine J_bw (b' := 2950 + (4 + 1)) (Nat.le_of_ble_eq_true rfl) ?_
  refine J_newarray2e (b := 2950) (N := 4) n51 (Nat.le_of_ble_eq_true rfl) rfl ac_l dX8_init_261 ?_
  refine J_gz (fun h52 z52 => ?_)
  have n52 : hn h52 = (n + 17) := by rw [z52]; rfl
  have k52_0 : Kd G0 h52 o (.inl 8) := by rw [z52]; exact Kd_nwn k51_0 n51
  have k52_1 : Kd G0 h52 (n + 1) (.inr (0, 5540)) := by rw [z52]; exact Kd_nwn k51_1 n51
  have k52_4 : Kd G0 h52 (n + 16) (.inr (2, 4)) := by rw [z52]; exact Kd_new0
  have r52_3 : rf h52 o ((3 : Nat) : Int) = some (n + 1) := by rw [z52, rf_nwn, if_neg (ne_addN on2)]; exact r51_3
  clear n51 k51_0 k51_1 r51_3
  refine J_dup rfl dX8_init_263 ?_
  refine J_iconst (by decide) dX8_init_264 ?_
  refine J_ldc2 (n := 3275858099) (by decide) (by decide) kc_RX8_94 dX8_init_265 ?_
  refine J_lastore k52_4 (by decide) dX8_init_268 ?_
  refine J_gz (fun h53 z53 => ?_)
  have n53 : hn h53 = (n + 17) := by rw [z53]; exact n52
  have k53_0 : Kd G0 h53 o (.inl 8) := by rw [z53]; exact k52_0
  have k53_1 : Kd G0 h53 (n + 1) (.inr (0, 5540)) := by rw [z53]; exact k52_1
  have k53_4 : Kd G0 h53 (n + 16) (.inr (2, 4)) := by rw [z53]; exact k52_4
  have r53_3 : rf h53 o ((3 : Nat) : Int) = some (n + 1) := by rw [z53]; exact r52_3
  clear n52 k52_0 k52_1 k52_4 r52_3
  refine J_dup rfl dX8_init_269 ?_
  refine J_iconst (by decide) dX8_init_270 ?_
  refine J_ldc2 (n := 20317619) (by decide) (by decide) kc_RX8_96 dX8_init_271 ?_
  refine J_lastore k53_4 (by decide) dX8_init_274 ?_
  refine J_gz (fun h54 z54 => ?_)
  have n54 : hn h54 = (n + 17) := by rw [z54]; exact n53
  have k54_0 : Kd G0 h54 o (.inl 8) := by rw [z54]; exact k53_0
  have k54_1 : Kd G0 h54 (n + 1) (.inr (0, 5540)) := by rw [z54]; exact k53_1
  have k54_4 : Kd G0 h54 (n + 16) (.inr (2, 4)) := by rw [z54]; exact k53_4
  have r54_3 : rf h54 o ((3 : Nat) : Int) = some (n + 1) := by rw [z54]; exact r53_3
  clear n53 k53_0 k53_1 k53_4 r53_3
  refine J_dup rfl dX8_init_275 ?_
  refine J_iconst (by decide) dX8_init_276 ?_
  refine J_ldc2 (n := 206483) (by decide) (by decide) kc_RX8_98 dX8_init_277 ?_
  refine J_lastore k54_4 (by decide) dX8_init_280 ?_
  refine J_gz (fun h55 z55 => ?_)
  have n55 : hn h55 = (n + 17) := by rw [z55]; exact n54
  have k55_0 : Kd G0 h55 o (.inl 8) := by rw [z55]; exact k54_0
  have k55_1 : Kd G0 h55 (n + 1) (.inr (0, 5540)) := by rw [z55]; exact k54_1
  have k55_4 : Kd G0 h55 (n + 16) (.inr (2, 4)) := by rw [z55]; exact k54_4
  have r55_3 : rf h55 o ((3 : Nat) : Int) = some (n + 1) := by rw [z55]; exact r54_3
  clear n54 k54_0 k54_1 k54_4 r54_3
  refine J_dup rfl dX8_init_281 ?_
  refine J_iconst (by decide) dX8_init_282 ?_
  refine J_ldc2 (n := 67155) (by decide) (by decide) kc_RX8_100 dX8_init_283 ?_
  refine J_lastore k55_4 (by decide) dX8_init_286 ?_
  refine J_gz (fun h56 z56 => ?_)
  have n56 : hn h56 = (n + 17) := by rw [z56]; exact n55
  have k56_0 : Kd G0 h56 o (.inl 8) := by rw [z56]; exact k55_0
  have k56_1 : Kd G0 h56 (n + 1) (.inr (0, 5540)) := by rw [z56]; exact k55_1
  have k56_4 : Kd G0 h56 (n + 16) (.inr (2, 4)) := by rw [z56]; exact k55_4
  have r56_3 : rf h56 o ((3 : Nat) : Int) = some (n + 1) := by rw [z56]; exact r55_3
  clear n55 k55_0 k55_1 k55_4 r55_3
  refine J_putRF fl_RX8_102 (by first | exact Or.inl ⟨_, rfl⟩ | exact Or.inr ⟨_, rfl⟩) (Or.inl rfl) rfl fs_RX8_102 k56_0 dX8_init_287 ?_
  refine J_gz (fun h57 z57 => ?_)
  have n57 : hn h57 = (n + 17) := by rw [z57]; exact n56
  have k57_0 : Kd G0 h57 o (.inl 8) := by rw [z57]; exact k56_0
  have k57_1 : Kd G0 h57 (n + 1) (.inr (0, 5540)) := by rw [z57]; exact k56_1
  have k57_4 : Kd G0 h57 (n + 16) (.inr (2, 4)) := by rw [z57]; exact k56_4
  have r57_3 : rf h57 o ((3 : Nat) : Int) = some (n + 1) := by rw [z57, rf_sr, if_neg (fun z => absurd z.2 (by decide))]; exact r56_3
  clear n56 k56_0 k56_1 k56_4 r56_3
  refine J_aload_n rfl dX8_init_290 ?_
  refine J_bipush (by decide) (by decide) dX8_init_291 ?_
  refine J_bw (b' := 2936 + (13 + 1)) (Nat.le_of_ble_eq_true rfl) ?_
  refine J_newarray2e (b := 2936) (N := 13) n57 (Nat.le_of_ble_eq_true rfl) rfl ac_l dX8_init_293 ?_
  refine J_gz (fun h58 z58 => ?_)
  have n58 : hn h58 = (n + 18) := by rw [z58]; rfl
  have k58_0 : Kd G0 h58 o (.inl 8) := by rw [z58]; exact Kd_nwn k57_0 n57
  have k58_1 : Kd G0 h58 (n + 1) (.inr (0, 5540)) := by rw [z58]; exact Kd_nwn k57_1 n57
  have k58_5 : Kd G0 h58 (n + 17) (.inr (2, 13)) := by rw [z58]; exact Kd_new0
  have r58_3 : rf h58 o ((3 : Nat) : Int) = some (n + 1) := by rw [z58, rf_nwn, if_neg (ne_addN on2)]; exact r57_3
  clear n57 k57_0 k57_1 r57_3
  refine J_putRF fl_RX8_105 (by first | exact Or.inl ⟨_, rfl⟩ | exact Or.inr ⟨_, rfl⟩) (Or.inl rfl) rfl fs_RX8_105 k58_0 dX8_init_295 ?_
  refine J_gz (fun h59 z59 => ?_)
  have n59 : hn h59 = (n + 18) := by rw [z59]; exact n58
  have k59_0 : Kd G0 h59 o (.inl 8) := by rw [z59]; exact k58_0
  have k59_1 : Kd G0 h59 (n + 1) (.inr (0, 5540)) := by rw [z59]; exact k58_1
  have k59_5 : Kd G0 h59 (n + 17) (.inr (2, 13)) := by rw [z59]; exact k58_5
  have r59_3 : rf h59 o ((3 : Nat) : Int) = some (n + 1) := by rw [z59, rf_sr, if_neg (fun z => absurd z.2 (by decide))]; exact r58_3
  clear n58 k58_0 k58_1 k58_5 r58_3
  refine J_aload_n rfl dX8_init_298 ?_
  refine J_bipush (by decide) (by decide) dX8_init_299 ?_
  refine J_bw (b' := 2922 + (13 + 1)) (Nat.le_of_ble_eq_true rfl) ?_
  refine J_newarray2e (b := 2922) (N := 13) n59 (Nat.le_of_ble_eq_true rfl) rfl ac_l dX8_init_301 ?_
  refine J_gz (fun h60 z60 => ?_)
  have n60 : hn h60 = (n + 19) := by rw [z60]; rfl
  have k60_0 : Kd G0 h60 o (.inl 8) := by rw [z60]; exact Kd_nwn k59_0 n59
  have k60_1 : Kd G0 h60 (n + 1) (.inr (0, 5540)) := by rw [z60]; exact Kd_nwn k59_1 n59
  have k60_6 : Kd G0 h60 (n + 18) (.inr (2, 13)) := by rw [z60]; exact Kd_new0
  have r60_3 : rf h60 o ((3 : Nat) : Int) = some (n + 1) := by rw [z60, rf_nwn, if_neg (ne_addN on2)]; exact r59_3
  clear n59 k59_0 k59_1 r59_3
  refine J_putRF fl_RX8_108 (by first | exact Or.inl ⟨_, rfl⟩ | exact Or.inr ⟨_, rfl⟩) (Or.inl rfl) rfl fs_RX8_108 k60_0 dX8_init_303 ?_
  refine J_gz (fun h61 z61 => ?_)
  have n61 : hn h61 = (n + 19) := by rw [z61]; exact n60
  have k61_0 : Kd G0 h61 o (.inl 8) := by rw [z61]; exact k60_0
  have k61_1 : Kd G0 h61 (n + 1) (.inr (0, 5540)) := by rw [z61]; exact k60_1
  have k61_6 : Kd G0 h61 (n + 18) (.inr (2, 13)) := by rw [z61]; exact k60_6
  have r61_3 : rf h61 o ((3 : Nat) : Int) = some (n + 1) := by rw [z61, rf_sr, if_neg (fun z => absurd z.2 (by decide))]; exact r60_3
  clear n60 k60_0 k60_1 k60_6 r60_3
  refine J_aload_n rfl dX8_init_306 ?_
  refine J_sipush (by decide) (by decide) dX8_init_307 ?_
  refine J_bw (b' := 2521 + (400 + 1)) (Nat.le_of_ble_eq_true rfl) ?_
  refine J_newarray2e (b := 2521) (N := 400) n61 (Nat.le_of_ble_eq_true rfl) rfl ac_l dX8_init_310 ?_
  refine J_gz (fun h62 z62 => ?_)
  have n62 : hn h62 = (n + 20) := by rw [z62]; rfl
  have k62_0 : Kd G0 h62 o (.inl 8) := by rw [z62]; exact Kd_nwn k61_0 n61
  have k62_1 : Kd G0 h62 (n + 1) (.inr (0, 5540)) := by rw [z62]; exact Kd_nwn k61_1 n61
  have k62_7 : Kd G0 h62 (n + 19) (.inr (2, 400)) := by rw [z62]; exact Kd_new0
  have r62_3 : rf h62 o ((3 : Nat) : Int) = some (n + 1) := by rw [z62, rf_nwn, if_neg (ne_addN on2)]; exact r61_3
  clear n61 k61_0 k61_1 r61_3
  refine J_putRF fl_RX8_111 (by first | exact Or.inl ⟨_, rfl⟩ | exact Or.inr ⟨_, rfl⟩) (Or.inl rfl) rfl fs_RX8_111 k62_0 dX8_init_312 ?_
  refine J_gz (fun h63 z63 => ?_)
  have n63 : hn h63 = (n + 20) := by rw [z63]; exact n62
  have k63_0 : Kd G0 h63 o (.inl 8) := by rw [z63]; exact k62_0
  have k63_1 : Kd G0 h63 (n + 1) (.inr (0, 5540)) := by rw [z63]; exact k62_1
  have k63_7 : Kd G0 h63 (n + 19) (.inr (2, 400)) := by rw [z63]; exact k62_7
  have r63_3 : rf h63 o ((3 : Nat) : Int) = some (n + 1) := by rw [z63, rf_sr, if_neg (fun z => absurd z.2 (by decide))]; exact r62_3
  clear n62 k62_0 k62_1 k62_7 r62_3
  refine J_aload_n rfl dX8_init_315 ?_
  refine J_bipush (by decide) (by decide) dX8_init_316 ?_
  refine J_bw (b' := 2512 + (8 + 1)) (Nat.le_of_ble_eq_true rfl) ?_
  refine J_newarray0e (b := 2512) (N := 8) n63 (Nat.le_of_ble_eq_true rfl) rfl ac_i dX8_init_318 ?_
  refine J_gz (fun h64 z64 => ?_)
  have n64 : hn h64 = (n + 21) := by rw [z64]; rfl
  have k64_0 : Kd G0 h64 o (.inl 8) := by rw [z64]; exact Kd_nwn k63_0 n63
  have k64_1 : Kd G0 h64 (n + 1) (.inr (0, 5540)) := by rw [z64]; exact Kd_nwn k63_1 n63
  have r64_3 : rf h64 o ((3 : Nat) : Int) = some (n + 1) := by rw [z64, rf_nwn, if_neg (ne_addN on2)]; exact r63_3
  clear n63 k63_0 k63_1 r63_3
  refine J_putRF fl_RX8_114 (by first | exact Or.inl ⟨_, rfl⟩ | exact Or.inr ⟨_, rfl⟩) (Or.inl rfl) rfl fs_RX8_114 k64_0 dX8_init_320 ?_
  refine J_gz (fun h65 z65 => ?_)
  have n65 : hn h65 = (n + 21) := by rw [z65]; exact n64
  have k65_0 : Kd G0 h65 o (.inl 8) := by rw [z65]; exact k64_0
  have k65_1 : Kd G0 h65 (n + 1) (.inr (0, 5540)) := by rw [z65]; exact k64_1
  have r65_3 : rf h65 o ((3 : Nat) : Int) = some (n + 1) := by rw [z65, rf_sr, if_neg (fun z => absurd z.2 (by decide))]; exact r64_3
  clear n64 k64_0 k64_1 r64_3
  refine J_aload_n rfl dX8_init_323 ?_
  refine J_sipush (by decide) (by decide) dX8_init_324 ?_
  refine J_bw (b' := 207 + (2304 + 1)) (Nat.le_of_ble_eq_true rfl) ?_
  refine J_newarray0e (b := 207) (N := 2304) n65 (Nat.le_of_ble_eq_true rfl) rfl ac_i dX8_init_327 ?_
  refine J_gz (fun h66 z66 => ?_)
  have n66 : hn h66 = (n + 22) := by rw [z66]; rfl
  have k66_0 : Kd G0 h66 o (.inl 8) := by rw [z66]; exact Kd_nwn k65_0 n65
  have k66_1 : Kd G0 h66 (n + 1) (.inr (0, 5540)) := by rw [z66]; exact Kd_nwn k65_1 n65
  have r66_3 : rf h66 o ((3 : Nat) : Int) = some (n + 1) := by rw [z66, rf_nwn, if_neg (ne_addN on2)]; exact r65_3
  clear n65 k65_0 k65_1 r65_3
  refine J_putRF fl_RX8_117 (by first | exact Or.inl ⟨_, rfl⟩ | exact Or.inr ⟨_, rfl⟩) (Or.inl rfl) rfl fs_RX8_117 k66_0 dX8_init_329 ?_
  refine J_gz (fun h67 z67 => ?_)
  have n67 : hn h67 = (n + 22) := by rw [z67]; exact n66
  have k67_0 : Kd G0 h67 o (.inl 8) := by rw [z67]; exact k66_0
  have k67_1 : Kd G0 h67 (n + 1) (.inr (0, 5540)) := by rw [z67]; exact k66_1
  have r67_3 : rf h67 o ((3 : Nat) : Int) = some (n + 1) := by rw [z67, rf_sr, if_neg (fun z => absurd z.2 (by decide))]; exact r66_3
  clear n66 k66_0 k66_1 r66_3
  refine J_aload_n rfl dX8_init_332 ?_
  refine J_bipush (by decide) (by decide) dX8_init_333 ?_
  refine J_bw (b' := 181 + (25 + 1)) (Nat.le_of_ble_eq_true rfl) ?_
  refine J_newarray0e (b := 181) (N := 25) n67 (Nat.le_of_ble_eq_true rfl) rfl ac_i dX8_init_335 ?_
  refine J_gz (fun h68 z68 => ?_)
  have n68 : hn h68 = (n + 23) := by rw [z68]; rfl
  have k68_0 : Kd G0 h68 o (.inl 8) := by rw [z68]; exact Kd_nwn k67_0 n67
  have k68_1 : Kd G0 h68 (n + 1) (.inr (0, 5540)) := by rw [z68]; exact Kd_nwn k67_1 n67
  have r68_3 : rf h68 o ((3 : Nat) : Int) = some (n + 1) := by rw [z68, rf_nwn, if_neg (ne_addN on2)]; exact r67_3
  clear n67 k67_0 k67_1 r67_3
  refine J_putRF fl_RX8_120 (by first | exact Or.inl ⟨_, rfl⟩ | exact Or.inr ⟨_, rfl⟩) (Or.inl rfl) rfl fs_RX8_120 k68_0 dX8_init_337 ?_
  refine J_gz (fun h69 z69 => ?_)
  have n69 : hn h69 = (n + 23) := by rw [z69]; exact n68
  have k69_0 : Kd G0 h69 o (.inl 8) := by rw [z69]; exact k68_0
  have k69_1 : Kd G0 h69 (n + 1) (.inr (0, 5540)) := by rw [z69]; exact k68_1
  have r69_3 : rf h69 o ((3 : Nat) : Int) = some (n + 1) := by rw [z69, rf_sr, if_neg (fun z => absurd z.2 (by decide))]; exact r68_3
  clear n68 k68_0 k68_1 r68_3
  refine J_aload_n rfl dX8_init_340 ?_
  refine J_bipush (by decide) (by decide) dX8_init_341 ?_
  refine J_bw (b' := 172 + (8 + 1)) (Nat.le_of_ble_eq_true rfl) ?_
  refine J_newarray0e (b := 172) (N := 8) n69 (Nat.le_of_ble_eq_true rfl) rfl ac_i dX8_init_343 ?_
  refine J_gz (fun h70 z70 => ?_)
  have n70 : hn h70 = (n + 24) := by rw [z70]; rfl
  have k70_0 : Kd G0 h70 o (.inl 8) := by rw [z70]; exact Kd_nwn k69_0 n69
  have k70_1 : Kd G0 h70 (n + 1) (.inr (0, 5540)) := by rw [z70]; exact Kd_nwn k69_1 n69
  have r70_3 : rf h70 o ((3 : Nat) : Int) = some (n + 1) := by rw [z70, rf_nwn, if_neg (ne_addN on2)]; exact r69_3
  clear n69 k69_0 k69_1 r69_3
  refine J_putRF fl_RX8_123 (by first | exact Or.inl ⟨_, rfl⟩ | exact Or.inr ⟨_, rfl⟩) (Or.inl rfl) rfl fs_RX8_123 k70_0 dX8_init_345 ?_
  refine J_gz (fun h71 z71 => ?_)
  have n71 : hn h71 = (n + 24) := by rw [z71]; exact n70
  have k71_0 : Kd G0 h71 o (.inl 8) := by rw [z71]; exact k70_0
  have k71_1 : Kd G0 h71 (n + 1) (.inr (0, 5540)) := by rw [z71]; exact k70_1
  have r71_3 : rf h71 o ((3 : Nat) : Int) = some (n + 1) := by rw [z71, rf_sr, if_neg (fun z => absurd z.2 (by decide))]; exact r70_3
  clear n70 k70_0 k70_1 r70_3
  refine J_aload_n rfl dX8_init_348 ?_
  refine J_bipush (by decide) (by decide) dX8_init_349 ?_
  refine J_bw (b' := 164 + (7 + 1)) (Nat.le_of_ble_eq_true rfl) ?_
  refine J_newarray0e (b := 164) (N := 7) n71 (Nat.le_of_ble_eq_true rfl) rfl ac_i dX8_init_351 ?_
  refine J_gz (fun h72 z72 => ?_)
  have n72 : hn h72 = (n + 25) := by rw [z72]; rfl
  have k72_0 : Kd G0 h72 o (.inl 8) := by rw [z72]; exact Kd_nwn k71_0 n71
  have k72_1 : Kd G0 h72 (n + 1) (.inr (0, 5540)) := by rw [z72]; exact Kd_nwn k71_1 n71
  have r72_3 : rf h72 o ((3 : Nat) : Int) = some (n + 1) := by rw [z72, rf_nwn, if_neg (ne_addN on2)]; exact r71_3
  clear n71 k71_0 k71_1 r71_3
  refine J_putRF fl_RX8_126 (by first | exact Or.inl ⟨_, rfl⟩ | exact Or.inr ⟨_, rfl⟩) (Or.inl rfl) rfl fs_RX8_126 k72_0 dX8_init_353 ?_
  refine J_gz (fun h73 z73 => ?_)
  have n73 : hn h73 = (n + 25) := by rw [z73]; exact n72
  have k73_0 : Kd G0 h73 o (.inl 8) := by rw [z73]; exact k72_0
  have k73_1 : Kd G0 h73 (n + 1) (.inr (0, 5540)) := by rw [z73]; exact k72_1
  have r73_3 : rf h73 o ((3 : Nat) : Int) = some (n + 1) := by rw [z73, rf_sr, if_neg (fun z => absurd z.2 (by decide))]; exact r72_3
  clear n72 k72_0 k72_1 r72_3
  refine J_aload_n rfl dX8_init_356 ?_
  refine J_bipush (by decide) (by decide) dX8_init_357 ?_
  refine J_bw (b' := 155 + (8 + 1)) (Nat.le_of_ble_eq_true rfl) ?_
  refine J_newarray0e (b := 155) (N := 8) n73 (Nat.le_of_ble_eq_true rfl) rfl ac_i dX8_init_359 ?_
  refine J_gz (fun h74 z74 => ?_)
  have n74 : hn h74 = (n + 26) := by rw [z74]; rfl
  have k74_0 : Kd G0 h74 o (.inl 8) := by rw [z74]; exact Kd_nwn k73_0 n73
  have k74_1 : Kd G0 h74 (n + 1) (.inr (0, 5540)) := by rw [z74]; exact Kd_nwn k73_1 n73
  have r74_3 : rf h74 o ((3 : Nat) : Int) = some (n + 1) := by rw [z74, rf_nwn, if_neg (ne_addN on2)]; exact r73_3
  clear n73 k73_0 k73_1 r73_3
  refine J_putRF fl_RX8_129 (by first | exact Or.inl ⟨_, rfl⟩ | exact Or.inr ⟨_, rfl⟩) (Or.inl rfl) rfl fs_RX8_129 k74_0 dX8_init_361 ?_
  refine J_gz (fun h75 z75 => ?_)
  have n75 : hn h75 = (n + 26) := by rw [z75]; exact n74
  have k75_0 : Kd G0 h75 o (.inl 8) := by rw [z75]; exact k74_0
  have k75_1 : Kd G0 h75 (n + 1) (.inr (0, 5540)) := by rw [z75]; exact k74_1
  have r75_3 : rf h75 o ((3 : Nat) : Int) = some (n + 1) := by rw [z75, rf_sr, if_neg (fun z => absurd z.2 (by decide))]; exact r74_3
  clear n74 k74_0 k74_1 r74_3
  refine J_aload_n rfl dX8_init_364 ?_
  refine J_bipush (by decide) (by decide) dX8_init_365 ?_
  refine J_bw (b' := 146 + (8 + 1)) (Nat.le_of_ble_eq_true rfl) ?_
  refine J_newarray0e (b := 146) (N := 8) n75 (Nat.le_of_ble_eq_true rfl) rfl ac_i dX8_init_367 ?_
  refine J_gz (fun h76 z76 => ?_)
  have n76 : hn h76 = (n + 27) := by rw [z76]; rfl
  have k76_0 : Kd G0 h76 o (.inl 8) := by rw [z76]; exact Kd_nwn k75_0 n75
  have k76_1 : Kd G0 h76 (n + 1) (.inr (0, 5540)) := by rw [z76]; exact Kd_nwn k75_1 n75
  have r76_3 : rf h76 o ((3 : Nat) : Int) = some (n + 1) := by rw [z76, rf_nwn, if_neg (ne_addN on2)]; exact r75_3
  clear n75 k75_0 k75_1 r75_3
  refine J_putRF fl_RX8_132 (by first | exact Or.inl ⟨_, rfl⟩ | exact Or.inr ⟨_, rfl⟩) (Or.inl rfl) rfl fs_RX8_132 k76_0 dX8_init_369 ?_
  refine J_gz (fun h77 z77 => ?_)
  have n77 : hn h77 = (n + 27) := by rw [z77]; exact n76
  have k77_0 : Kd G0 h77 o (.inl 8) := by rw [z77]; exact k76_0
  have k77_1 : Kd G0 h77 (n + 1) (.inr (0, 5540)) := by rw [z77]; exact k76_1
  have r77_3 : rf h77 o ((3 : Nat) : Int) = some (n + 1) := by rw [z77, rf_sr, if_neg (fun z => absurd z.2 (by decide))]; exact r76_3
  clear n76 k76_0 k76_1 r76_3
  refine J_aload_n rfl dX8_init_372 ?_
  refine J_iconst (by decide) dX8_init_373 ?_
  refine J_bw (b' := 140 + (5 + 1)) (Nat.le_of_ble_eq_true rfl) ?_
  refine J_newarray2e (b := 140) (N := 5) n77 (Nat.le_of_ble_eq_true rfl) rfl ac_l dX8_init_374 ?_
  refine J_gz (fun h78 z78 => ?_)
  have n78 : hn h78 = (n + 28) := by rw [z78]; rfl
  have k78_0 : Kd G0 h78 o (.inl 8) := by rw [z78]; exact Kd_nwn k77_0 n77
  have k78_1 : Kd G0 h78 (n + 1) (.inr (0, 5540)) := by rw [z78]; exact Kd_nwn k77_1 n77
  have k78_8 : Kd G0 h78 (n + 27) (.inr (2, 5)) := by rw [z78]; exact Kd_new0
  have r78_3 : rf h78 o ((3 : Nat) : Int) = some (n + 1) := by rw [z78, rf_nwn, if_neg (ne_addN on2)]; exact r77_3
  clear n77 k77_0 k77_1 r77_3
  refine J_dup rfl dX8_init_376 ?_
  refine J_iconst (by decide) dX8_init_377 ?_
  refine J_ldc2 (n := 404404328) (by decide) (by decide) kc_RX8_135 dX8_init_378 ?_
  refine J_lastore k78_8 (by decide) dX8_init_381 ?_
  refine J_gz (fun h79 z79 => ?_)
  have n79 : hn h79 = (n + 28) := by rw [z79]; exact n78
  have k79_0 : Kd G0 h79 o (.inl 8) := by rw [z79]; exact k78_0
  have k79_1 : Kd G0 h79 (n + 1) (.inr (0, 5540)) := by rw [z79]; exact k78_1
  have k79_8 : Kd G0 h79 (n + 27) (.inr (2, 5)) := by rw [z79]; exact k78_8
  have r79_3 : rf h79 o ((3 : Nat) : Int) = some (n + 1) := by rw [z79]; exact r78_3
  clear n78 k78_0 k78_1 k78_8 r78_3
  refine J_dup rfl dX8_init_382 ?_
  refine J_iconst (by decide) dX8_init_383 ?_
  refine J_ldc2 (n := 623916) (by decide) (by decide) kc_RX8_137 dX8_init_384 ?_
  refine J_lastore k79_8 (by decide) dX8_init_387 ?_
  refine J_gz (fun h80 z80 => ?_)
  have n80 : hn h80 = (n + 28) := by rw [z80]; exact n79
  have k80_0 : Kd G0 h80 o (.inl 8) := by rw [z80]; exact k79_0
  have k80_1 : Kd G0 h80 (n + 1) (.inr (0, 5540)) := by rw [z80]; exact k79_1
  have k80_8 : Kd G0 h80 (n + 27) (.inr (2, 5)) := by rw [z80]; exact k79_8
  have r80_3 : rf h80 o ((3 : Nat) : Int) = some (n + 1) := by rw [z80]; exact r79_3
  clear n79 k79_0 k79_1 k79_8 r79_3
  refine J_dup rfl dX8_init_388 ?_
  refine J_iconst (by decide) dX8_init_389 ?_
  refine J_ldc2 (n := 206440) (by decide) (by decide) kc_RX8_71 dX8_init_390 ?_
  refine J_lastore k80_8 (by decide) dX8_init_393 ?_
  refine J_gz (fun h81 z81 => ?_)
  have n81 : hn h81 = (n + 28) := by rw [z81]; exact n80
  have k81_0 : Kd G0 h81 o (.inl 8) := by rw [z81]; exact k80_0
  have k81_1 : Kd G0 h81 (n + 1) (.inr (0, 5540)) := by rw [z81]; exact k80_1
  have k81_8 : Kd G0 h81 (n + 27) (.inr (2, 5)) := by rw [z81]; exact k80_8
  have r81_3 : rf h81 o ((3 : Nat) : Int) = some (n + 1) := by rw [z81]; exact r80_3
  clear n80 k80_0 k80_1 k80_8 r80_3
  refine J_dup rfl dX8_init_394 ?_
  refine J_iconst (by decide) dX8_init_395 ?_
  refine J_ldc2 (n := 263623) (by decide) (by decide) kc_RX8_139 dX8_init_396 ?_
  refine J_lastore k81_8 (by decide) dX8_init_399 ?_
  refine J_gz (fun h82 z82 => ?_)
  have n82 : hn h82 = (n + 28) := by rw [z82]; exact n81
  have k82_0 : Kd G0 h82 o (.inl 8) := by rw [z82]; exact k81_0
  have k82_1 : Kd G0 h82 (n + 1) (.inr (0, 5540)) := by rw [z82]; exact k81_1
  have k82_8 : Kd G0 h82 (n + 27) (.inr (2, 5)) := by rw [z82]; exact k81_8
  have r82_3 : rf h82 o ((3 : Nat) : Int) = some (n + 1) := by rw [z82]; exact r81_3
  clear n81 k81_0 k81_1 k81_8 r81_3
  refine J_dup rfl dX8_init_400 ?_
  refine J_iconst (by decide) dX8_init_401 ?_
  refine J_ldc2 (n := 664709) (by decide) (by decide) kc_RX8_141 dX8_init_402 ?_
  refine J_lastore k82_8 (by decide) dX8_init_405 ?_
  refine J_gz (fun h83 z83 => ?_)
  have n83 : hn h83 = (n + 28) := by rw [z83]; exact n82
  have k83_0 : Kd G0 h83 o (.inl 8) := by rw [z83]; exact k82_0
  have k83_1 : Kd G0 h83 (n + 1) (.inr (0, 5540)) := by rw [z83]; exact k82_1
  have k83_8 : Kd G0 h83 (n + 27) (.inr (2, 5)) := by rw [z83]; exact k82_8
  have r83_3 : rf h83 o ((3 : Nat) : Int) = some (n + 1) := by rw [z83]; exact r82_3
  clear n82 k82_0 k82_1 k82_8 r82_3
  refine J_putRF fl_RX8_143 (by first | exact Or.inl ⟨_, rfl⟩ | exact Or.inr ⟨_, rfl⟩) (Or.inl rfl) rfl fs_RX8_143 k83_0 dX8_init_406 ?_
  refine J_gz (fun h84 z84 => ?_)
  have n84 : hn h84 = (n + 28) := by rw [z84]; exact n83
  have k84_0 : Kd G0 h84 o (.inl 8) := by rw [z84]; exact k83_0
  have k84_1 : Kd G0 h84 (n + 1) (.inr (0, 5540)) := by rw [z84]; exact k83_1
  have k84_8 : Kd G0 h84 (n + 27) (.inr (2, 5)) := by rw [z84]; exact k83_8
  have r84_3 : rf h84 o ((3 : Nat) : Int) = some (n + 1) := by rw [z84, rf_sr, if_neg (fun z => absurd z.2 (by decide))]; exact r83_3
  clear n83 k83_0 k83_1 k83_8 r83_3
  refine J_aload_n rfl dX8_init_409 ?_
  refine J_bipush (by decide) (by decide) dX8_init_410 ?_
  refine J_bw (b' := 43 + (96 + 1)) (Nat.le_of_ble_eq_true rfl) ?_
  refine J_newarray0e (b := 43) (N := 96) n84 (Nat.le_of_ble_eq_true rfl) rfl ac_i dX8_init_412 ?_
  refine J_gz (fun h85 z85 => ?_)
  have n85 : hn h85 = (n + 29) := by rw [z85]; rfl
  have k85_0 : Kd G0 h85 o (.inl 8) := by rw [z85]; exact Kd_nwn k84_0 n84
  have k85_1 : Kd G0 h85 (n + 1) (.inr (0, 5540)) := by rw [z85]; exact Kd_nwn k84_1 n84
  have r85_3 : rf h85 o ((3 : Nat) : Int) = some (n + 1) := by rw [z85, rf_nwn, if_neg (ne_addN on2)]; exact r84_3
  clear n84 k84_0 k84_1 r84_3
  refine J_putRF fl_RX8_146 (by first | exact Or.inl ⟨_, rfl⟩ | exact Or.inr ⟨_, rfl⟩) (Or.inl rfl) rfl fs_RX8_146 k85_0 dX8_init_414 ?_
  refine J_gz (fun h86 z86 => ?_)
  have n86 : hn h86 = (n + 29) := by rw [z86]; exact n85
  have k86_0 : Kd G0 h86 o (.inl 8) := by rw [z86]; exact k85_0
  have k86_1 : Kd G0 h86 (n + 1) (.inr (0, 5540)) := by rw [z86]; exact k85_1
  have r86_3 : rf h86 o ((3 : Nat) : Int) = some (n + 1) := by rw [z86, rf_sr, if_neg (fun z => absurd z.2 (by decide))]; exact r85_3
  clear n85 k85_0 k85_1 r85_3
  refine J_aload_n rfl dX8_init_417 ?_
  refine J_iconst (by decide) dX8_init_418 ?_
  refine J_putI fl_RX8_149 rfl k86_0 dX8_init_419 ?_
  refine J_gz (fun h87 z87 => ?_)
  have n87 : hn h87 = (n + 29) := by rw [z87]; exact n86
  have k87_0 : Kd G0 h87 o (.inl 8) := by rw [z87]; exact k86_0
  have k87_1 : Kd G0 h87 (n + 1) (.inr (0, 5540)) := by rw [z87]; exact k86_1
  have r87_3 : rf h87 o ((3 : Nat) : Int) = some (n + 1) := by rw [z87]; exact r86_3
  clear n86 k86_0 k86_1 r86_3
  refine J_aload_n rfl dX8_init_422 ?_
  refine J_bipush (by decide) (by decide) dX8_init_423 ?_
  refine J_bw (b' := 26 + (16 + 1)) (Nat.le_of_ble_eq_true rfl) ?_
  refine J_newarray0e (b := 26) (N := 16) n87 (Nat.le_of_ble_eq_true rfl) rfl ac_i dX8_init_425 ?_
  refine J_gz (fun h88 z88 => ?_)
  have n88 : hn h88 = (n + 30) := by rw [z88]; rfl
  have k88_0 : Kd G0 h88 o (.inl 8) := by rw [z88]; exact Kd_nwn k87_0 n87
  have k88_1 : Kd G0 h88 (n + 1) (.inr (0, 5540)) := by rw [z88]; exact Kd_nwn k87_1 n87
  have r88_3 : rf h88 o ((3 : Nat) : Int) = some (n + 1) := by rw [z88, rf_nwn, if_neg (ne_addN on2)]; exact r87_3
  clear n87 k87_0 k87_1 r87_3
  refine J_putRF fl_RX8_152 (by first | exact Or.inl ⟨_, rfl⟩ | exact Or.inr ⟨_, rfl⟩) (Or.inl rfl) rfl fs_RX8_152 k88_0 dX8_init_427 ?_
  refine J_gz (fun h89 z89 => ?_)
  have n89 : hn h89 = (n + 30) := by rw [z89]; exact n88
  have k89_0 : Kd G0 h89 o (.inl 8) := by rw [z89]; exact k88_0
  have k89_1 : Kd G0 h89 (n + 1) (.inr (0, 5540)) := by rw [z89]; exact k88_1
  have r89_3 : rf h89 o ((3 : Nat) : Int) = some (n + 1) := by rw [z89, rf_sr, if_neg (fun z => absurd z.2 (by decide))]; exact r88_3
  clear n88 k88_0 k88_1 r88_3
  refine J_aload_n rfl dX8_init_430 ?_
  refine J_bipush (by decide) (by decide) dX8_init_431 ?_
  refine J_bw (b' := 0 + (25 + 1)) (Nat.le_of_ble_eq_true rfl) ?_
  refine J_newarray0e (b := 0) (N := 25) n89 (Nat.le_of_ble_eq_true rfl) rfl ac_i dX8_init_433 ?_
  refine J_gz (fun h90 z90 => ?_)
  have n90 : hn h90 = (n + 31) := by rw [z90]; rfl
  have k90_0 : Kd G0 h90 o (.inl 8) := by rw [z90]; exact Kd_nwn k89_0 n89
  have k90_1 : Kd G0 h90 (n + 1) (.inr (0, 5540)) := by rw [z90]; exact Kd_nwn k89_1 n89
  have r90_3 : rf h90 o ((3 : Nat) : Int) = some (n + 1) := by rw [z90, rf_nwn, if_neg (ne_addN on2)]; exact r89_3
  clear n89 k89_0 k89_1 r89_3
  refine J_putRF fl_RX8_155 (by first | exact Or.inl ⟨_, rfl⟩ | exact Or.inr ⟨_, rfl⟩) (Or.inl rfl) rfl fs_RX8_155 k90_0 dX8_init_435 ?_
  refine J_gz (fun h91 z91 => ?_)
  have n91 : hn h91 = (n + 31) := by rw [z91]; exact n90
  have k91_0 : Kd G0 h91 o (.inl 8) := by rw [z91]; exact k90_0
  have k91_1 : Kd G0 h91 (n + 1) (.inr (0, 5540)) := by rw [z91]; exact k90_1
  have r91_3 : rf h91 o ((3 : Nat) : Int) = some (n + 1) := by rw [z91, rf_sr, if_neg (fun z => absurd z.2 (by decide))]; exact r90_3
  clear n90 k90_0 k90_1 r90_3
  refine J_aload_n rfl dX8_init_438 ?_
  refine J_iconst (by decide) dX8_init_439 ?_
  refine J_putI fl_RX8_158 rfl k91_0 dX8_init_440 ?_
  refine J_gz (fun h92 z92 => ?_)
  have n92 : hn h92 = (n + 31) := by rw [z92]; exact n91
  have k92_0 : Kd G0 h92 o (.inl 8) := by rw [z92]; exact k91_0
  have k92_1 : Kd G0 h92 (n + 1) (.inr (0, 5540)) := by rw [z92]; exact k91_1
  have r92_3 : rf h92 o ((3 : Nat) : Int) = some (n + 1) := by rw [z92]; exact r91_3
  clear n91 k91_0 k91_1 r91_3
  refine J_aload_n rfl dX8_init_443 ?_
  refine J_getRe (r := (n + 1)) fl_RX8_13 rfl k92_0 r92_3 dX8_init_444 ?_
  refine J_iconst (by decide) dX8_init_447 ?_
  refine J_iconst (by decide) dX8_init_448 ?_
  refine J_iastore k92_1 (by decide) dX8_init_449 ?_
  refine J_gz (fun h93 z93 => ?_)
  have n93 : hn h93 = (n + 31) := by rw [z93]; exact n92
  have k93_0 : Kd G0 h93 o (.inl 8) := by rw [z93]; exact k92_0
  have k93_1 : Kd G0 h93 (n + 1) (.inr (0, 5540)) := by rw [z93]; exact k92_1
  have r93_3 : rf h93 o ((3 : Nat) : Int) = some (n + 1) := by rw [z93]; exact r92_3
  clear n92 k92_0 k92_1 r92_3
  refine J_iconst (by decide) dX8_init_450 ?_
  refine J_istore_n (loc' := [some (vR (some o)), some (vI 0)]) (by decide) rfl dX8_init_451 ?_
  have q := fun K => lp_model (d := d + 1) (b := 0) (Q := Q) k93_0 n93 r93_3 k93_1 K 25 0 rfl (Int.le_refl 0)
  rw [fil_0] at q
  refine q ?_
  subst z93 z92 z91 z90 z89 z88 z87 z86 z85 z84 z83 z82 z81 z80 z79 z78 z77 z76 z75 z74 z73 z72 z71 z70 z69 z68 z67 z66 z65 z64 z63 z62 z61 z60 z59 z58 z57 z56 z55 z54 z53 z52 z51 z50 z49 z48 z47 z46 z45 z44 z43 z42 z41 z40 z39 z38 z37 z36 z35 z34 z33 z32 z31 z30 z29 z28 z27 z26 z25 z24 z23 z22 z21 z20 z19 z18 z17 z16 z15 z14 z13 z12 z11 z10 z9 z8 z7 z6 z5 z4 z3 z2 z1
  exact K
