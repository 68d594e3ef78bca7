def isleH0 (h : AH) (o n : Nat) : AH := sr (nwn (sr (nwn (sr (nwn (sr (nwn (si (sr (nwn (si h o ((0 : Nat) : Int) 0) n (.inr (0, 8))) o ((1 : Nat) : Int) (some n)) o ((2 : Nat) : Int) 0) (n + 1) (.inr (0, 8))) o ((3 : Nat) : Int) (some (n + 1))) (n + 2) (.inr (0, 8))) o ((4 : Nat) : Int) (some (n + 2))) (n + 3) (.inr (0, 8))) o ((5 : Nat) : Int) (some (n + 3))) (n + 4) (.inr (0, 8))) o ((6 : Nat) : Int) (some (n + 4))
def isleH1 (h : AH) (o n : Nat) : AH := nwn (si (sr (nwn (sr (nwn (sr (nwn (sr (nwn (sr (nwn (isleH0 h o n) (n + 5) (.inr (0, 8))) o ((7 : Nat) : Int) (some (n + 5))) (n + 6) (.inr (0, 8))) o ((8 : Nat) : Int) (some (n + 6))) (n + 7) (.inr (0, 8))) o ((9 : Nat) : Int) (some (n + 7))) (n + 8) (.inr (0, 25))) o ((10 : Nat) : Int) (some (n + 8))) (n + 9) (.inr (0, 25))) o ((11 : Nat) : Int) (some (n + 9))) o ((12 : Nat) : Int) 0) (n + 10) (.inr (0, 8))
def isleH (h : AH) (o n : Nat) : AH := fil (si (sr (nwn (si (si (si (sr (isleH1 h o n) o ((13 : Nat) : Int) (some (n + 10))) o ((14 : Nat) : Int) 0) o ((15 : Nat) : Int) 0) o ((16 : Nat) : Int) 0) (n + 11) (.inr (4, 6))) o ((17 : Nat) : Int) (some (n + 11))) o ((18 : Nat) : Int) (-1)) (n + 8) 0 ((25 : Nat) : Int) 10
theorem hn_isleH {h : AH} {o n : Nat} : hn (isleH h o n) = n + 12 := rfl
theorem kd_isleH {h : AH} {o n o' : Nat} (z : o' < n) : kd (isleH h o n) o' = kd h o' := by
  simp only [isleH0, isleH1, isleH, kd_si', kd_sr', kd_nwn, kd_fil]
  repeat rw [if_neg (by omega)]
theorem rf_isleH {h : AH} {o n o' : Nat} {k : Int} (z : o' < n) (e : o' ≠ o) : rf (isleH h o n) o' k = rf h o' k := by
  simp only [isleH0, isleH1, isleH, rf_si', rf_sr, rf_nwn, rf_fil]
  repeat rw [if_neg (by omega)]
set_option maxRecDepth 20000 in
set_option maxHeartbeats 4000000 in
theorem c_isleH {d : Nat} {Q : Option AV → AH → Prop} {h : AH} {o n : Nat} (k0 : Kd G0 h o (.inl 0)) (n0 : hn h = n) (K : Q none (isleH h o n)) : WM G0 (d + 1) 140 mX0_init [vR (some o)] h Q := by
  have on2 : o < n := by rw [← n0]; exact (Kd0 k0).2
  refine WM_introE (loc' := [some (vR (some o))]) rfl (by decide) (Nat.le_of_ble_eq_true rfl) ?_
  refine J_aload_n rfl dX0_init_0 ?_
  refine J_objinit ml_RX0_3 (Nat.le_of_ble_eq_true rfl) dX0_init_1 ?_
  refine J_aload_n rfl dX0_init_4 ?_
  refine J_iconst (by decide) dX0_init_5 ?_
  refine J_putI fl_RX0_9 rfl k0 dX0_init_6 ?_
  refine J_gz (fun h1 z1 => ?_)
  have n1 : hn h1 = n := by rw [z1]; exact n0
  have k1_0 : Kd G0 h1 o (.inl 0) := by rw [z1]; exact k0
  refine J_aload_n rfl dX0_init_9 ?_
  refine J_bipush (by decide) (by decide) dX0_init_10 ?_
  refine J_bw (b' := 131 + (8 + 1)) (Nat.le_of_ble_eq_true rfl) ?_
  refine J_newarray0e (b := 131) (N := 8) n1 (Nat.le_of_ble_eq_true rfl) rfl ac_i dX0_init_12 ?_
  refine J_gz (fun h2 z2 => ?_)
  have n2 : hn h2 = (n + 1) := by rw [z2]; rfl
  have k2_0 : Kd G0 h2 o (.inl 0) := by rw [z2]; exact Kd_nwn k1_0 n1
  clear n1 k1_0
  refine J_putRF fl_RX0_15 (by first | exact Or.inl ⟨_, rfl⟩ | exact Or.inr ⟨_, rfl⟩) (Or.inl rfl) rfl fs_RX0_15 k2_0 dX0_init_14 ?_
  refine J_gz (fun h3 z3 => ?_)
  have n3 : hn h3 = (n + 1) := by rw [z3]; exact n2
  have k3_0 : Kd G0 h3 o (.inl 0) := by rw [z3]; exact k2_0
  clear n2 k2_0
  refine J_aload_n rfl dX0_init_17 ?_
  refine J_iconst (by decide) dX0_init_18 ?_
  refine J_putI fl_RX0_19 rfl k3_0 dX0_init_19 ?_
  refine J_gz (fun h4 z4 => ?_)
  have n4 : hn h4 = (n + 1) := by rw [z4]; exact n3
  have k4_0 : Kd G0 h4 o (.inl 0) := by rw [z4]; exact k3_0
  clear n3 k3_0
  refine J_aload_n rfl dX0_init_22 ?_
  refine J_bipush (by decide) (by decide) dX0_init_23 ?_
  refine J_bw (b' := 122 + (8 + 1)) (Nat.le_of_ble_eq_true rfl) ?_
  refine J_newarray0e (b := 122) (N := 8) n4 (Nat.le_of_ble_eq_true rfl) rfl ac_i dX0_init_25 ?_
  refine J_gz (fun h5 z5 => ?_)
  have n5 : hn h5 = (n + 2) := by rw [z5]; rfl
  have k5_0 : Kd G0 h5 o (.inl 0) := by rw [z5]; exact Kd_nwn k4_0 n4
  clear n4 k4_0
  refine J_putRF fl_RX0_22 (by first | exact Or.inl ⟨_, rfl⟩ | exact Or.inr ⟨_, rfl⟩) (Or.inl rfl) rfl fs_RX0_22 k5_0 dX0_init_27 ?_
  refine J_gz (fun h6 z6 => ?_)
  have n6 : hn h6 = (n + 2) := by rw [z6]; exact n5
  have k6_0 : Kd G0 h6 o (.inl 0) := by rw [z6]; exact k5_0
  clear n5 k5_0
  refine J_aload_n rfl dX0_init_30 ?_
  refine J_bipush (by decide) (by decide) dX0_init_31 ?_
  refine J_bw (b' := 113 + (8 + 1)) (Nat.le_of_ble_eq_true rfl) ?_
  refine J_newarray0e (b := 113) (N := 8) n6 (Nat.le_of_ble_eq_true rfl) rfl ac_i dX0_init_33 ?_
  refine J_gz (fun h7 z7 => ?_)
  have n7 : hn h7 = (n + 3) := by rw [z7]; rfl
  have k7_0 : Kd G0 h7 o (.inl 0) := by rw [z7]; exact Kd_nwn k6_0 n6
  clear n6 k6_0
  refine J_putRF fl_RX0_25 (by first | exact Or.inl ⟨_, rfl⟩ | exact Or.inr ⟨_, rfl⟩) (Or.inl rfl) rfl fs_RX0_25 k7_0 dX0_init_35 ?_
  refine J_gz (fun h8 z8 => ?_)
  have n8 : hn h8 = (n + 3) := by rw [z8]; exact n7
  have k8_0 : Kd G0 h8 o (.inl 0) := by rw [z8]; exact k7_0
  clear n7 k7_0
  refine J_aload_n rfl dX0_init_38 ?_
  refine J_bipush (by decide) (by decide) dX0_init_39 ?_
  refine J_bw (b' := 104 + (8 + 1)) (Nat.le_of_ble_eq_true rfl) ?_
  refine J_newarray0e (b := 104) (N := 8) n8 (Nat.le_of_ble_eq_true rfl) rfl ac_i dX0_init_41 ?_
  refine J_gz (fun h9 z9 => ?_)
  have n9 : hn h9 = (n + 4) := by rw [z9]; rfl
  have k9_0 : Kd G0 h9 o (.inl 0) := by rw [z9]; exact Kd_nwn k8_0 n8
  clear n8 k8_0
  refine J_putRF fl_RX0_28 (by first | exact Or.inl ⟨_, rfl⟩ | exact Or.inr ⟨_, rfl⟩) (Or.inl rfl) rfl fs_RX0_28 k9_0 dX0_init_43 ?_
  refine J_gz (fun h10 z10 => ?_)
  have n10 : hn h10 = (n + 4) := by rw [z10]; exact n9
  have k10_0 : Kd G0 h10 o (.inl 0) := by rw [z10]; exact k9_0
  clear n9 k9_0
  refine J_aload_n rfl dX0_init_46 ?_
  refine J_bipush (by decide) (by decide) dX0_init_47 ?_
  refine J_bw (b' := 95 + (8 + 1)) (Nat.le_of_ble_eq_true rfl) ?_
  refine J_newarray0e (b := 95) (N := 8) n10 (Nat.le_of_ble_eq_true rfl) rfl ac_i dX0_init_49 ?_
  refine J_gz (fun h11 z11 => ?_)
  have n11 : hn h11 = (n + 5) := by rw [z11]; rfl
  have k11_0 : Kd G0 h11 o (.inl 0) := by rw [z11]; exact Kd_nwn k10_0 n10
  clear n10 k10_0
  refine J_putRF fl_RX0_31 (by first | exact Or.inl ⟨_, rfl⟩ | exact Or.inr ⟨_, rfl⟩) (Or.inl rfl) rfl fs_RX0_31 k11_0 dX0_init_51 ?_
  refine J_gz (fun h12 z12 => ?_)
  have n12 : hn h12 = (n + 5) := by rw [z12]; exact n11
  have k12_0 : Kd G0 h12 o (.inl 0) := by rw [z12]; exact k11_0
  clear n11 k11_0
  refine J_aload_n rfl dX0_init_54 ?_
  refine J_bipush (by decide) (by decide) dX0_init_55 ?_
  refine J_bw (b' := 86 + (8 + 1)) (Nat.le_of_ble_eq_true rfl) ?_
  refine J_newarray0e (b := 86) (N := 8) n12 (Nat.le_of_ble_eq_true rfl) rfl ac_i dX0_init_57 ?_
  refine J_gz (fun h13 z13 => ?_)
  have n13 : hn h13 = (n + 6) := by rw [z13]; rfl
  have k13_0 : Kd G0 h13 o (.inl 0) := by rw [z13]; exact Kd_nwn k12_0 n12
  clear n12 k12_0
  refine J_putRF fl_RX0_34 (by first | exact Or.inl ⟨_, rfl⟩ | exact Or.inr ⟨_, rfl⟩) (Or.inl rfl) rfl fs_RX0_34 k13_0 dX0_init_59 ?_
  refine J_gz (fun h14 z14 => ?_)
  have n14 : hn h14 = (n + 6) := by rw [z14]; exact n13
  have k14_0 : Kd G0 h14 o (.inl 0) := by rw [z14]; exact k13_0
  clear n13 k13_0
  refine J_aload_n rfl dX0_init_62 ?_
  refine J_bipush (by decide) (by decide) dX0_init_63 ?_
  refine J_bw (b' := 77 + (8 + 1)) (Nat.le_of_ble_eq_true rfl) ?_
  refine J_newarray0e (b := 77) (N := 8) n14 (Nat.le_of_ble_eq_true rfl) rfl ac_i dX0_init_65 ?_
  refine J_gz (fun h15 z15 => ?_)
  have n15 : hn h15 = (n + 7) := by rw [z15]; rfl
  have k15_0 : Kd G0 h15 o (.inl 0) := by rw [z15]; exact Kd_nwn k14_0 n14
  clear n14 k14_0
  refine J_putRF fl_RX0_37 (by first | exact Or.inl ⟨_, rfl⟩ | exact Or.inr ⟨_, rfl⟩) (Or.inl rfl) rfl fs_RX0_37 k15_0 dX0_init_67 ?_
  refine J_gz (fun h16 z16 => ?_)
  have n16 : hn h16 = (n + 7) := by rw [z16]; exact n15
  have k16_0 : Kd G0 h16 o (.inl 0) := by rw [z16]; exact k15_0
  clear n15 k15_0
  refine J_aload_n rfl dX0_init_70 ?_
  refine J_bipush (by decide) (by decide) dX0_init_71 ?_
  refine J_bw (b' := 68 + (8 + 1)) (Nat.le_of_ble_eq_true rfl) ?_
  refine J_newarray0e (b := 68) (N := 8) n16 (Nat.le_of_ble_eq_true rfl) rfl ac_i dX0_init_73 ?_
  refine J_gz (fun h17 z17 => ?_)
  have n17 : hn h17 = (n + 8) := by rw [z17]; rfl
  have k17_0 : Kd G0 h17 o (.inl 0) := by rw [z17]; exact Kd_nwn k16_0 n16
  clear n16 k16_0
  refine J_putRF fl_RX0_40 (by first | exact Or.inl ⟨_, rfl⟩ | exact Or.inr ⟨_, rfl⟩) (Or.inl rfl) rfl fs_RX0_40 k17_0 dX0_init_75 ?_
  refine J_gz (fun h18 z18 => ?_)
  have n18 : hn h18 = (n + 8) := by rw [z18]; exact n17
  have k18_0 : Kd G0 h18 o (.inl 0) := by rw [z18]; exact k17_0
  clear n17 k17_0
  refine J_aload_n rfl dX0_init_78 ?_
  refine J_bipush (by decide) (by decide) dX0_init_79 ?_
  refine J_bw (b' := 42 + (25 + 1)) (Nat.le_of_ble_eq_true rfl) ?_
  refine J_newarray0e (b := 42) (N := 25) n18 (Nat.le_of_ble_eq_true rfl) rfl ac_i dX0_init_81 ?_
  refine J_gz (fun h19 z19 => ?_)
  have n19 : hn h19 = (n + 9) := by rw [z19]; rfl
  have k19_0 : Kd G0 h19 o (.inl 0) := by rw [z19]; exact Kd_nwn k18_0 n18
  have k19_1 : Kd G0 h19 (n + 8) (.inr (0, 25)) := by rw [z19]; exact Kd_new0
  clear n18 k18_0
  refine J_putRF fl_RX0_43 (by first | exact Or.inl ⟨_, rfl⟩ | exact Or.inr ⟨_, rfl⟩) (Or.inl rfl) rfl fs_RX0_43 k19_0 dX0_init_83 ?_
  refine J_gz (fun h20 z20 => ?_)
  have n20 : hn h20 = (n + 9) := by rw [z20]; exact n19
  have k20_0 : Kd G0 h20 o (.inl 0) := by rw [z20]; exact k19_0
  have k20_1 : Kd G0 h20 (n + 8) (.inr (0, 25)) := by rw [z20]; exact k19_1
  clear n19 k19_0 k19_1
  have r20_10 : rf h20 o ((10 : Nat) : Int) = some (n + 8) := by rw [z20, rf_sr, if_pos ⟨rfl, rfl⟩]
  refine J_aload_n rfl dX0_init_86 ?_
  refine J_bipush (by decide) (by decide) dX0_init_87 ?_
  refine J_bw (b' := 16 + (25 + 1)) (Nat.le_of_ble_eq_true rfl) ?_
  refine J_newarray0e (b := 16) (N := 25) n20 (Nat.le_of_ble_eq_true rfl) rfl ac_i dX0_init_89 ?_
  refine J_gz (fun h21 z21 => ?_)
  have n21 : hn h21 = (n + 10) := by rw [z21]; rfl
  have k21_0 : Kd G0 h21 o (.inl 0) := by rw [z21]; exact Kd_nwn k20_0 n20
  have k21_1 : Kd G0 h21 (n + 8) (.inr (0, 25)) := by rw [z21]; exact Kd_nwn k20_1 n20
  have r21_10 : rf h21 o ((10 : Nat) : Int) = some (n + 8) := by rw [z21, rf_nwn, if_neg (ne_addN on2)]; exact r20_10
  clear n20 k20_0 k20_1 r20_10
  refine J_putRF fl_RX0_46 (by first | exact Or.inl ⟨_, rfl⟩ | exact Or.inr ⟨_, rfl⟩) (Or.inl rfl) rfl fs_RX0_46 k21_0 dX0_init_91 ?_
  refine J_gz (fun h22 z22 => ?_)
  have n22 : hn h22 = (n + 10) := by rw [z22]; exact n21
  have k22_0 : Kd G0 h22 o (.inl 0) := by rw [z22]; exact k21_0
  have k22_1 : Kd G0 h22 (n + 8) (.inr (0, 25)) := by rw [z22]; exact k21_1
  have r22_10 : rf h22 o ((10 : Nat) : Int) = some (n + 8) := by rw [z22, rf_sr, if_neg (fun z => absurd z.2 (by decide))]; exact r21_10
  clear n21 k21_0 k21_1 r21_10
  refine J_aload_n rfl dX0_init_94 ?_
  refine J_iconst (by decide) dX0_init_95 ?_
  refine J_putI fl_RX0_49 rfl k22_0 dX0_init_96 ?_
  refine J_gz (fun h23 z23 => ?_)
  have n23 : hn h23 = (n + 10) := by rw [z23]; exact n22
  have k23_0 : Kd G0 h23 o (.inl 0) := by rw [z23]; exact k22_0
  have k23_1 : Kd G0 h23 (n + 8) (.inr (0, 25)) := by rw [z23]; exact k22_1
  have r23_10 : rf h23 o ((10 : Nat) : Int) = some (n + 8) := by rw [z23]; exact r22_10
  clear n22 k22_0 k22_1 r22_10
  refine J_aload_n rfl dX0_init_99 ?_
  refine J_bipush (by decide) (by decide) dX0_init_100 ?_
  refine J_bw (b' := 7 + (8 + 1)) (Nat.le_of_ble_eq_true rfl) ?_
  refine J_newarray0e (b := 7) (N := 8) n23 (Nat.le_of_ble_eq_true rfl) rfl ac_i dX0_init_102 ?_
  refine J_gz (fun h24 z24 => ?_)
  have n24 : hn h24 = (n + 11) := by rw [z24]; rfl
  have k24_0 : Kd G0 h24 o (.inl 0) := by rw [z24]; exact Kd_nwn k23_0 n23
  have k24_1 : Kd G0 h24 (n + 8) (.inr (0, 25)) := by rw [z24]; exact Kd_nwn k23_1 n23
  have r24_10 : rf h24 o ((10 : Nat) : Int) = some (n + 8) := by rw [z24, rf_nwn, if_neg (ne_addN on2)]; exact r23_10
  clear n23 k23_0 k23_1 r23_10
  refine J_putRF fl_RX0_52 (by first | exact Or.inl ⟨_, rfl⟩ | exact Or.inr ⟨_, rfl⟩) (Or.inl rfl) rfl fs_RX0_52 k24_0 dX0_init_104 ?_
  refine J_gz (fun h25 z25 => ?_)
  have n25 : hn h25 = (n + 11) := by rw [z25]; exact n24
  have k25_0 : Kd G0 h25 o (.inl 0) := by rw [z25]; exact k24_0
  have k25_1 : Kd G0 h25 (n + 8) (.inr (0, 25)) := by rw [z25]; exact k24_1
  have r25_10 : rf h25 o ((10 : Nat) : Int) = some (n + 8) := by rw [z25, rf_sr, if_neg (fun z => absurd z.2 (by decide))]; exact r24_10
  clear n24 k24_0 k24_1 r24_10
  refine J_aload_n rfl dX0_init_107 ?_
  refine J_iconst (by decide) dX0_init_108 ?_
  refine J_putI fl_RX0_55 rfl k25_0 dX0_init_109 ?_
  refine J_gz (fun h26 z26 => ?_)
  have n26 : hn h26 = (n + 11) := by rw [z26]; exact n25
  have k26_0 : Kd G0 h26 o (.inl 0) := by rw [z26]; exact k25_0
  have k26_1 : Kd G0 h26 (n + 8) (.inr (0, 25)) := by rw [z26]; exact k25_1
  have r26_10 : rf h26 o ((10 : Nat) : Int) = some (n + 8) := by rw [z26]; exact r25_10
  clear n25 k25_0 k25_1 r25_10
  refine J_aload_n rfl dX0_init_112 ?_
  refine J_iconst (by decide) dX0_init_113 ?_
  refine J_putI fl_RX0_58 rfl k26_0 dX0_init_114 ?_
  refine J_gz (fun h27 z27 => ?_)
  have n27 : hn h27 = (n + 11) := by rw [z27]; exact n26
  have k27_0 : Kd G0 h27 o (.inl 0) := by rw [z27]; exact k26_0
  have k27_1 : Kd G0 h27 (n + 8) (.inr (0, 25)) := by rw [z27]; exact k26_1
  have r27_10 : rf h27 o ((10 : Nat) : Int) = some (n + 8) := by rw [z27]; exact r26_10
  clear n26 k26_0 k26_1 r26_10
  refine J_aload_n rfl dX0_init_117 ?_
  refine J_iconst (by decide) dX0_init_118 ?_
  refine J_putI fl_RX0_61 rfl k27_0 dX0_init_119 ?_
  refine J_gz (fun h28 z28 => ?_)
  have n28 : hn h28 = (n + 11) := by rw [z28]; exact n27
  have k28_0 : Kd G0 h28 o (.inl 0) := by rw [z28]; exact k27_0
  have k28_1 : Kd G0 h28 (n + 8) (.inr (0, 25)) := by rw [z28]; exact k27_1
  have r28_10 : rf h28 o ((10 : Nat) : Int) = some (n + 8) := by rw [z28]; exact r27_10
  clear n27 k27_0 k27_1 r27_10
  refine J_aload_n rfl dX0_init_122 ?_
  refine J_bipush (by decide) (by decide) dX0_init_123 ?_
  refine J_bw (b' := 0 + (6 + 1)) (Nat.le_of_ble_eq_true rfl) ?_
  refine J_anewarray4e (b := 0) (N := 6) n28 (Nat.le_of_ble_eq_true rfl) rfl cl_RX0_64 ac_text dX0_init_125 ?_
  refine J_gz (fun h29 z29 => ?_)
  have n29 : hn h29 = (n + 12) := by rw [z29]; rfl
  have k29_0 : Kd G0 h29 o (.inl 0) := by rw [z29]; exact Kd_nwn k28_0 n28
  have k29_1 : Kd G0 h29 (n + 8) (.inr (0, 25)) := by rw [z29]; exact Kd_nwn k28_1 n28
  have r29_10 : rf h29 o ((10 : Nat) : Int) = some (n + 8) := by rw [z29, rf_nwn, if_neg (ne_addN on2)]; exact r28_10
  clear n28 k28_0 k28_1 r28_10
  refine J_putRF fl_RX0_66 (by first | exact Or.inl ⟨_, rfl⟩ | exact Or.inr ⟨_, rfl⟩) (Or.inl rfl) rfl fs_RX0_66 k29_0 dX0_init_128 ?_
  refine J_gz (fun h30 z30 => ?_)
  have n30 : hn h30 = (n + 12) := by rw [z30]; exact n29
  have k30_0 : Kd G0 h30 o (.inl 0) := by rw [z30]; exact k29_0
  have k30_1 : Kd G0 h30 (n + 8) (.inr (0, 25)) := by rw [z30]; exact k29_1
  have r30_10 : rf h30 o ((10 : Nat) : Int) = some (n + 8) := by rw [z30, rf_sr, if_neg (fun z => absurd z.2 (by decide))]; exact r29_10
  clear n29 k29_0 k29_1 r29_10
  refine J_aload_n rfl dX0_init_131 ?_
  refine J_iconst (by decide) dX0_init_132 ?_
  refine J_putI fl_RX0_70 rfl k30_0 dX0_init_133 ?_
  refine J_gz (fun h31 z31 => ?_)
  have n31 : hn h31 = (n + 12) := by rw [z31]; exact n30
  have k31_0 : Kd G0 h31 o (.inl 0) := by rw [z31]; exact k30_0
  have k31_1 : Kd G0 h31 (n + 8) (.inr (0, 25)) := by rw [z31]; exact k30_1
  have r31_10 : rf h31 o ((10 : Nat) : Int) = some (n + 8) := by rw [z31]; exact r30_10
  clear n30 k30_0 k30_1 r30_10
  refine J_aload_n rfl dX0_init_136 ?_
  refine J_getRe (r := (n + 8)) fl_RX0_43 rfl k31_0 r31_10 dX0_init_137 ?_
  refine J_bipush (by decide) (by decide) dX0_init_140 ?_
  refine J_b0 (J_callS (b1 := 0) (vs := [vR (some (n + 8)), vI 10]) (rest := []) (Or.inl rfl) ml_RX0_73 rfl (Nat.le_of_ble_eq_true rfl) (Nat.le_of_ble_eq_true rfl) rfl dX0_init_142 (c_fill0 k31_1 (by decide) ?_))
  show J G0 _ _ _ _ _ _ [] _
  refine J_gz (fun h32 z32 => ?_)
  have n32 : hn h32 = (n + 12) := by rw [z32]; exact n31
  have k32_0 : Kd G0 h32 o (.inl 0) := by rw [z32]; exact k31_0
  have k32_1 : Kd G0 h32 (n + 8) (.inr (0, 25)) := by rw [z32]; exact k31_1
  have r32_10 : rf h32 o ((10 : Nat) : Int) = some (n + 8) := by rw [z32]; exact r31_10
  clear n31 k31_0 k31_1 r31_10
  subst z32 z31 z30 z29 z28 z27 z26 z25 z24 z23 z22 z21 z20 z19 z18 z17 z16 z15 z14 z13 z12 z11 z10 z9 z8 z7 z6 z5 z4 z3 z2 z1
  exact J_return rfl dX0_init_145 K
