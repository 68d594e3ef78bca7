def fleetH0 (h : AH) (o n : Nat) : AH := nwn (si (sr (isleH (nwn (sr (nwn (sr (nwn (sr (isleH (nwn h n (.inl 0)) n (n + 1)) o ((0 : Nat) : Int) (some n)) (n + 13) (.inr (3, 2))) o ((1 : Nat) : Int) (some (n + 13))) (n + 14) (.inr (1, 2))) o ((2 : Nat) : Int) (some (n + 14))) (n + 15) (.inl 0)) (n + 15) (n + 16)) o ((3 : Nat) : Int) (some (n + 15))) o ((4 : Nat) : Int) 0) (n + 28) (.inl 4)
def fleetH1 (h : AH) (o n : Nat) : AH := nwn (sr (trailH (nwn (sr (judgeH (nwn (sr (readerH (nwn (sr (tapeH (fleetH0 h o n) (n + 28) (n + 29)) o ((5 : Nat) : Int) (some (n + 28))) (n + 30) (.inl 3)) (n + 30) (n + 31)) o ((6 : Nat) : Int) (some (n + 30))) (n + 37) (.inl 1)) (n + 37) (n + 38)) o ((7 : Nat) : Int) (some (n + 37))) (n + 40) (.inl 6)) (n + 40) (n + 41)) o ((8 : Nat) : Int) (some (n + 40))) (n + 42) (.inl 2)
def fleetH2 (h : AH) (o n : Nat) : AH := sr (isleH (nwn (sr (nwn (si (si (si (si (si (sr (paperH (fleetH1 h o n) (n + 42) (n + 43)) o ((9 : Nat) : Int) (some (n + 42))) o ((10 : Nat) : Int) 0) o ((11 : Nat) : Int) (-1)) o ((12 : Nat) : Int) 0) o ((13 : Nat) : Int) (-1)) o ((14 : Nat) : Int) 0) (n + 49) (.inr (0, 5))) o ((15 : Nat) : Int) (some (n + 49))) (n + 50) (.inl 0)) (n + 50) (n + 51)) (n + 13) 0 (some (n + 50))
def fleetH (h : AH) (o n : Nat) : AH := sr (isleH (nwn (fleetH2 h o n) (n + 63) (.inl 0)) (n + 63) (n + 64)) (n + 13) 1 (some (n + 63))
set_option maxRecDepth 20000 in
set_option maxHeartbeats 4000000 in
theorem c_fleetH {d : Nat} {Q : Option AV → AH → Prop} {h : AH} {o n : Nat} (k0 : Kd G0 h o (.inl 7)) (n0 : hn h = n) (K : Q none (fleetH h o n)) : WM G0 (d + 3) 19843 mX7_init [vR (some o)] h Q := by
  have on2 : o < n := by rw [← n0]; exact (Kd0 k0).2
  refine WM_introE (loc' := [some (vR (some o)), none]) rfl (by decide) (Nat.le_of_ble_eq_true rfl) ?_
  refine J_aload_n rfl dX7_init_0 ?_
  refine J_objinit ml_RX7_1 (Nat.le_of_ble_eq_true rfl) dX7_init_1 ?_
  refine J_aload_n rfl dX7_init_4 ?_
  refine J_bw (b' := 19823 + (19 + 1)) (Nat.le_of_ble_eq_true rfl) ?_
  refine J_newe (b := 19823) (ci := 0) (q0 := (RX0, TX0, 19)) n0 rfl cl_RX7_7 ci_RX0 cn_RX0 (fun k hk => dfl0 k hk) dX7_init_5 ?_
  refine J_gz (fun h1 z1 => ?_)
  have n1 : hn h1 = (n + 1) := by rw [z1]; rfl
  have k1_0 : Kd G0 h1 o (.inl 7) := by rw [z1]; exact Kd_nwn k0 n0
  have k1_1 : Kd G0 h1 n (.inl 0) := by rw [z1]; exact Kd_new0
  refine J_dup rfl dX7_init_8 ?_
  refine J_bw (b' := 140 + 19683) (Nat.le_of_ble_eq_true rfl) ?_
  refine J_callI (b1 := 140) (b2 := 19683) (vs := []) (rest := [vR (some n), vR (some o)]) (Or.inr rfl) ml_RX7_9 rfl rfl (Nat.le_of_ble_eq_true rfl) (Nat.le_of_ble_eq_true rfl) rfl dX7_init_9 (c_isleH k1_1 n1 ?_)
  show J G0 _ _ _ _ _ _ [vR (some n), vR (some o)] _
  refine J_gz (fun h2 z2 => ?_)
  have n2 : hn h2 = (n + 13) := by rw [z2]; rfl
  have k2_0 : Kd G0 h2 o (.inl 7) := by exact Kd_of k1_0 (by rw [z2]; exact kd_isleH (by have := (Kd0 k1_0).2; omega)) (by omega)
  have k2_1 : Kd G0 h2 n (.inl 0) := by exact Kd_of k1_1 (by rw [z2]; exact kd_isleH (by have := (Kd0 k1_1).2; omega)) (by omega)
  clear n1 k1_0 k1_1
  refine J_putRF fl_RX7_10 (by first | exact Or.inl ⟨_, rfl⟩ | exact Or.inr ⟨_, rfl⟩) (Or.inl rfl) rfl fs_RX7_10 k2_0 dX7_init_12 ?_
  refine J_gz (fun h3 z3 => ?_)
  have n3 : hn h3 = (n + 13) := by rw [z3]; exact n2
  have k3_0 : Kd G0 h3 o (.inl 7) := by rw [z3]; exact k2_0
  have k3_1 : Kd G0 h3 n (.inl 0) := by rw [z3]; exact k2_1
  clear n2 k2_0 k2_1
  refine J_aload_n rfl dX7_init_15 ?_
  refine J_iconst (by decide) dX7_init_16 ?_
  refine J_bw (b' := 19680 + (2 + 1)) (Nat.le_of_ble_eq_true rfl) ?_
  refine J_anewarray3e (b := 19680) (N := 2) n3 (Nat.le_of_ble_eq_true rfl) rfl cl_RX7_7 ac_isle dX7_init_17 ?_
  refine J_gz (fun h4 z4 => ?_)
  have n4 : hn h4 = (n + 14) := by rw [z4]; rfl
  have k4_0 : Kd G0 h4 o (.inl 7) := by rw [z4]; exact Kd_nwn k3_0 n3
  have k4_2 : Kd G0 h4 (n + 13) (.inr (3, 2)) := by rw [z4]; exact Kd_new0
  clear n3 k3_0
  refine J_putRF fl_RX7_16 (by first | exact Or.inl ⟨_, rfl⟩ | exact Or.inr ⟨_, rfl⟩) (Or.inl rfl) rfl fs_RX7_16 k4_0 dX7_init_20 ?_
  refine J_gz (fun h5 z5 => ?_)
  have n5 : hn h5 = (n + 14) := by rw [z5]; exact n4
  have k5_0 : Kd G0 h5 o (.inl 7) := by rw [z5]; exact k4_0
  have k5_2 : Kd G0 h5 (n + 13) (.inr (3, 2)) := by rw [z5]; exact k4_2
  clear n4 k4_0 k4_2
  have r5_1 : rf h5 o ((1 : Nat) : Int) = some (n + 13) := by rw [z5, rf_sr, if_pos ⟨rfl, rfl⟩]
  refine J_aload_n rfl dX7_init_23 ?_
  refine J_iconst (by decide) dX7_init_24 ?_
  refine J_bw (b' := 19677 + (2 + 1)) (Nat.le_of_ble_eq_true rfl) ?_
  refine J_newarray1e (b := 19677) (N := 2) n5 (Nat.le_of_ble_eq_true rfl) rfl ac_z dX7_init_25 ?_
  refine J_gz (fun h6 z6 => ?_)
  have n6 : hn h6 = (n + 15) := by rw [z6]; rfl
  have k6_0 : Kd G0 h6 o (.inl 7) := by rw [z6]; exact Kd_nwn k5_0 n5
  have k6_2 : Kd G0 h6 (n + 13) (.inr (3, 2)) := by rw [z6]; exact Kd_nwn k5_2 n5
  have r6_1 : rf h6 o ((1 : Nat) : Int) = some (n + 13) := by rw [z6, rf_nwn, if_neg (ne_addN on2)]; exact r5_1
  clear n5 k5_0 k5_2 r5_1
  refine J_putRF fl_RX7_20 (by first | exact Or.inl ⟨_, rfl⟩ | exact Or.inr ⟨_, rfl⟩) (Or.inl rfl) rfl fs_RX7_20 k6_0 dX7_init_27 ?_
  refine J_gz (fun h7 z7 => ?_)
  have n7 : hn h7 = (n + 15) := by rw [z7]; exact n6
  have k7_0 : Kd G0 h7 o (.inl 7) := by rw [z7]; exact k6_0
  have k7_2 : Kd G0 h7 (n + 13) (.inr (3, 2)) := by rw [z7]; exact k6_2
  have r7_1 : rf h7 o ((1 : Nat) : Int) = some (n + 13) := by rw [z7, rf_sr, if_neg (fun z => absurd z.2 (by decide))]; exact r6_1
  clear n6 k6_0 k6_2 r6_1
  refine J_aload_n rfl dX7_init_30 ?_
  refine J_bw (b' := 19657 + (19 + 1)) (Nat.le_of_ble_eq_true rfl) ?_
  refine J_newe (b := 19657) (ci := 0) (q0 := (RX0, TX0, 19)) n7 rfl cl_RX7_7 ci_RX0 cn_RX0 (fun k hk => dfl0 k hk) dX7_init_31 ?_
  refine J_gz (fun h8 z8 => ?_)
  have n8 : hn h8 = (n + 16) := by rw [z8]; rfl
  have k8_0 : Kd G0 h8 o (.inl 7) := by rw [z8]; exact Kd_nwn k7_0 n7
  have k8_2 : Kd G0 h8 (n + 13) (.inr (3, 2)) := by rw [z8]; exact Kd_nwn k7_2 n7
  have k8_3 : Kd G0 h8 (n + 15) (.inl 0) := by rw [z8]; exact Kd_new0
  have r8_1 : rf h8 o ((1 : Nat) : Int) = some (n + 13) := by rw [z8, rf_nwn, if_neg (ne_addN on2)]; exact r7_1
  clear n7 k7_0 k7_2 r7_1
  refine J_dup rfl dX7_init_34 ?_
  refine J_bw (b' := 140 + 19517) (Nat.le_of_ble_eq_true rfl) ?_
  refine J_callI (b1 := 140) (b2 := 19517) (vs := []) (rest := [vR (some (n + 15)), vR (some o)]) (Or.inr rfl) ml_RX7_9 rfl rfl (Nat.le_of_ble_eq_true rfl) (Nat.le_of_ble_eq_true rfl) rfl dX7_init_35 (c_isleH k8_3 n8 ?_)
  show J G0 _ _ _ _ _ _ [vR (some (n + 15)), vR (some o)] _
  refine J_gz (fun h9 z9 => ?_)
  have n9 : hn h9 = (n + 28) := by rw [z9]; rfl
  have k9_0 : Kd G0 h9 o (.inl 7) := by exact Kd_of k8_0 (by rw [z9]; exact kd_isleH (by have := (Kd0 k8_0).2; omega)) (by omega)
  have k9_2 : Kd G0 h9 (n + 13) (.inr (3, 2)) := by exact Kd_of k8_2 (by rw [z9]; exact kd_isleH (by have := (Kd0 k8_2).2; omega)) (by omega)
  have k9_3 : Kd G0 h9 (n + 15) (.inl 0) := by exact Kd_of k8_3 (by rw [z9]; exact kd_isleH (by have := (Kd0 k8_3).2; omega)) (by omega)
  have r9_1 : rf h9 o ((1 : Nat) : Int) = some (n + 13) := by rw [z9, rf_isleH (by omega) (ne_addN on2)]; exact r8_1
  clear n8 k8_0 k8_2 k8_3 r8_1
  refine J_putRF fl_RX7_24 (by first | exact Or.inl ⟨_, rfl⟩ | exact Or.inr ⟨_, rfl⟩) (Or.inl rfl) rfl fs_RX7_24 k9_0 dX7_init_38 ?_
  refine J_gz (fun h10 z10 => ?_)
  have n10 : hn h10 = (n + 28) := by rw [z10]; exact n9
  have k10_0 : Kd G0 h10 o (.inl 7) := by rw [z10]; exact k9_0
  have k10_2 : Kd G0 h10 (n + 13) (.inr (3, 2)) := by rw [z10]; exact k9_2
  have k10_3 : Kd G0 h10 (n + 15) (.inl 0) := by rw [z10]; exact k9_3
  have r10_1 : rf h10 o ((1 : Nat) : Int) = some (n + 13) := by rw [z10, rf_sr, if_neg (fun z => absurd z.2 (by decide))]; exact r9_1
  clear n9 k9_0 k9_2 k9_3 r9_1
  refine J_aload_n rfl dX7_init_41 ?_
  refine J_iconst (by decide) dX7_init_42 ?_
  refine J_putZ fl_RX7_27 rfl (by decide) k10_0 dX7_init_43 ?_
  refine J_gz (fun h11 z11 => ?_)
  have n11 : hn h11 = (n + 28) := by rw [z11]; exact n10
  have k11_0 : Kd G0 h11 o (.inl 7) := by rw [z11]; exact k10_0
  have k11_2 : Kd G0 h11 (n + 13) (.inr (3, 2)) := by rw [z11]; exact k10_2
  have r11_1 : rf h11 o ((1 : Nat) : Int) = some (n + 13) := by rw [z11]; exact r10_1
  clear n10 k10_0 k10_2 r10_1
  refine J_aload_n rfl dX7_init_46 ?_
  refine J_bw (b' := 19514 + (2 + 1)) (Nat.le_of_ble_eq_true rfl) ?_
  refine J_newe (b := 19514) (ci := 4) (q0 := (RX4, TX4, 2)) n11 rfl cl_RX7_31 ci_RX4 cn_RX4 (fun k hk => dfl4 k hk) dX7_init_47 ?_
  refine J_gz (fun h12 z12 => ?_)
  have n12 : hn h12 = (n + 29) := by rw [z12]; rfl
  have k12_0 : Kd G0 h12 o (.inl 7) := by rw [z12]; exact Kd_nwn k11_0 n11
  have k12_2 : Kd G0 h12 (n + 13) (.inr (3, 2)) := by rw [z12]; exact Kd_nwn k11_2 n11
  have k12_4 : Kd G0 h12 (n + 28) (.inl 4) := by rw [z12]; exact Kd_new0
  have r12_1 : rf h12 o ((1 : Nat) : Int) = some (n + 13) := by rw [z12, rf_nwn, if_neg (ne_addN on2)]; exact r11_1
  clear n11 k11_0 k11_2 r11_1
  refine J_dup rfl dX7_init_50 ?_
  refine J_bw (b' := 401 + 19113) (Nat.le_of_ble_eq_true rfl) ?_
  refine J_callI (b1 := 401) (b2 := 19113) (vs := []) (rest := [vR (some (n + 28)), vR (some o)]) (Or.inr rfl) ml_RX7_33 rfl rfl (Nat.le_of_ble_eq_true rfl) (Nat.le_of_ble_eq_true rfl) rfl dX7_init_51 (c_tapeH k12_4 n12 ?_)
  show J G0 _ _ _ _ _ _ [vR (some (n + 28)), vR (some o)] _
  refine J_gz (fun h13 z13 => ?_)
  have n13 : hn h13 = (n + 30) := by rw [z13]; rfl
  have k13_0 : Kd G0 h13 o (.inl 7) := by exact Kd_of k12_0 (by rw [z13]; exact kd_tapeH (by have := (Kd0 k12_0).2; omega)) (by omega)
  have k13_2 : Kd G0 h13 (n + 13) (.inr (3, 2)) := by exact Kd_of k12_2 (by rw [z13]; exact kd_tapeH (by have := (Kd0 k12_2).2; omega)) (by omega)
  have k13_4 : Kd G0 h13 (n + 28) (.inl 4) := by exact Kd_of k12_4 (by rw [z13]; exact kd_tapeH (by have := (Kd0 k12_4).2; omega)) (by omega)
  have r13_1 : rf h13 o ((1 : Nat) : Int) = some (n + 13) := by rw [z13, rf_tapeH (by omega) (ne_addN on2)]; exact r12_1
  clear n12 k12_0 k12_2 k12_4 r12_1
  refine J_putRF fl_RX7_34 (by first | exact Or.inl ⟨_, rfl⟩ | exact Or.inr ⟨_, rfl⟩) (Or.inl rfl) rfl fs_RX7_34 k13_0 dX7_init_54 ?_
  refine J_gz (fun h14 z14 => ?_)
  have n14 : hn h14 = (n + 30) := by rw [z14]; exact n13
  have k14_0 : Kd G0 h14 o (.inl 7) := by rw [z14]; exact k13_0
  have k14_2 : Kd G0 h14 (n + 13) (.inr (3, 2)) := by rw [z14]; exact k13_2
  have k14_4 : Kd G0 h14 (n + 28) (.inl 4) := by rw [z14]; exact k13_4
  have r14_1 : rf h14 o ((1 : Nat) : Int) = some (n + 13) := by rw [z14, rf_sr, if_neg (fun z => absurd z.2 (by decide))]; exact r13_1
  clear n13 k13_0 k13_2 k13_4 r13_1
  refine J_aload_n rfl dX7_init_57 ?_
  refine J_bw (b' := 19102 + (10 + 1)) (Nat.le_of_ble_eq_true rfl) ?_
  refine J_newe (b := 19102) (ci := 3) (q0 := (RX3, TX3, 10)) n14 rfl cl_RX7_38 ci_RX3 cn_RX3 (fun k hk => dfl3 k hk) dX7_init_58 ?_
  refine J_gz (fun h15 z15 => ?_)
  have n15 : hn h15 = (n + 31) := by rw [z15]; rfl
  have k15_0 : Kd G0 h15 o (.inl 7) := by rw [z15]; exact Kd_nwn k14_0 n14
  have k15_2 : Kd G0 h15 (n + 13) (.inr (3, 2)) := by rw [z15]; exact Kd_nwn k14_2 n14
  have k15_5 : Kd G0 h15 (n + 30) (.inl 3) := by rw [z15]; exact Kd_new0
  have r15_1 : rf h15 o ((1 : Nat) : Int) = some (n + 13) := by rw [z15, rf_nwn, if_neg (ne_addN on2)]; exact r14_1
  clear n14 k14_0 k14_2 r14_1
  refine J_dup rfl dX7_init_61 ?_
  refine J_bw (b' := 2145 + 16957) (Nat.le_of_ble_eq_true rfl) ?_
  refine J_callI (b1 := 2145) (b2 := 16957) (vs := []) (rest := [vR (some (n + 30)), vR (some o)]) (Or.inr rfl) ml_RX7_40 rfl rfl (Nat.le_of_ble_eq_true rfl) (Nat.le_of_ble_eq_true rfl) rfl dX7_init_62 (c_readerH k15_5 n15 ?_)
  show J G0 _ _ _ _ _ _ [vR (some (n + 30)), vR (some o)] _
  refine J_gz (fun h16 z16 => ?_)
  have n16 : hn h16 = (n + 37) := by rw [z16]; rfl
  have k16_0 : Kd G0 h16 o (.inl 7) := by exact Kd_of k15_0 (by rw [z16]; exact kd_readerH (by have := (Kd0 k15_0).2; omega)) (by omega)
  have k16_2 : Kd G0 h16 (n + 13) (.inr (3, 2)) := by exact Kd_of k15_2 (by rw [z16]; exact kd_readerH (by have := (Kd0 k15_2).2; omega)) (by omega)
  have k16_5 : Kd G0 h16 (n + 30) (.inl 3) := by exact Kd_of k15_5 (by rw [z16]; exact kd_readerH (by have := (Kd0 k15_5).2; omega)) (by omega)
  have r16_1 : rf h16 o ((1 : Nat) : Int) = some (n + 13) := by rw [z16, rf_readerH (by omega) (ne_addN on2)]; exact r15_1
  clear n15 k15_0 k15_2 k15_5 r15_1
  refine J_putRF fl_RX7_41 (by first | exact Or.inl ⟨_, rfl⟩ | exact Or.inr ⟨_, rfl⟩) (Or.inl rfl) rfl fs_RX7_41 k16_0 dX7_init_65 ?_
  refine J_gz (fun h17 z17 => ?_)
  have n17 : hn h17 = (n + 37) := by rw [z17]; exact n16
  have k17_0 : Kd G0 h17 o (.inl 7) := by rw [z17]; exact k16_0
  have k17_2 : Kd G0 h17 (n + 13) (.inr (3, 2)) := by rw [z17]; exact k16_2
  have k17_5 : Kd G0 h17 (n + 30) (.inl 3) := by rw [z17]; exact k16_5
  have r17_1 : rf h17 o ((1 : Nat) : Int) = some (n + 13) := by rw [z17, rf_sr, if_neg (fun z => absurd z.2 (by decide))]; exact r16_1
  clear n16 k16_0 k16_2 k16_5 r16_1
  refine J_aload_n rfl dX7_init_68 ?_
  refine J_bw (b' := 16954 + (2 + 1)) (Nat.le_of_ble_eq_true rfl) ?_
  refine J_newe (b := 16954) (ci := 1) (q0 := (RX1, TX1, 2)) n17 rfl cl_RX7_45 ci_RX1 cn_RX1 (fun k hk => dfl1 k hk) dX7_init_69 ?_
  refine J_gz (fun h18 z18 => ?_)
  have n18 : hn h18 = (n + 38) := by rw [z18]; rfl
  have k18_0 : Kd G0 h18 o (.inl 7) := by rw [z18]; exact Kd_nwn k17_0 n17
  have k18_2 : Kd G0 h18 (n + 13) (.inr (3, 2)) := by rw [z18]; exact Kd_nwn k17_2 n17
  have k18_6 : Kd G0 h18 (n + 37) (.inl 1) := by rw [z18]; exact Kd_new0
  have r18_1 : rf h18 o ((1 : Nat) : Int) = some (n + 13) := by rw [z18, rf_nwn, if_neg (ne_addN on2)]; exact r17_1
  clear n17 k17_0 k17_2 r17_1
  refine J_dup rfl dX7_init_72 ?_
  refine J_bw (b' := 140 + 16814) (Nat.le_of_ble_eq_true rfl) ?_
  refine J_callI (b1 := 140) (b2 := 16814) (vs := []) (rest := [vR (some (n + 37)), vR (some o)]) (Or.inr rfl) ml_RX7_47 rfl rfl (Nat.le_of_ble_eq_true rfl) (Nat.le_of_ble_eq_true rfl) rfl dX7_init_73 (c_judgeH k18_6 n18 ?_)
  show J G0 _ _ _ _ _ _ [vR (some (n + 37)), vR (some o)] _
  refine J_gz (fun h19 z19 => ?_)
  have n19 : hn h19 = (n + 40) := by rw [z19]; rfl
  have k19_0 : Kd G0 h19 o (.inl 7) := by exact Kd_of k18_0 (by rw [z19]; exact kd_judgeH (by have := (Kd0 k18_0).2; omega)) (by omega)
  have k19_2 : Kd G0 h19 (n + 13) (.inr (3, 2)) := by exact Kd_of k18_2 (by rw [z19]; exact kd_judgeH (by have := (Kd0 k18_2).2; omega)) (by omega)
  have k19_6 : Kd G0 h19 (n + 37) (.inl 1) := by exact Kd_of k18_6 (by rw [z19]; exact kd_judgeH (by have := (Kd0 k18_6).2; omega)) (by omega)
  have r19_1 : rf h19 o ((1 : Nat) : Int) = some (n + 13) := by rw [z19, rf_judgeH (by omega) (ne_addN on2)]; exact r18_1
  clear n18 k18_0 k18_2 k18_6 r18_1
  refine J_putRF fl_RX7_48 (by first | exact Or.inl ⟨_, rfl⟩ | exact Or.inr ⟨_, rfl⟩) (Or.inl rfl) rfl fs_RX7_48 k19_0 dX7_init_76 ?_
  refine J_gz (fun h20 z20 => ?_)
  have n20 : hn h20 = (n + 40) := by rw [z20]; exact n19
  have k20_0 : Kd G0 h20 o (.inl 7) := by rw [z20]; exact k19_0
  have k20_2 : Kd G0 h20 (n + 13) (.inr (3, 2)) := by rw [z20]; exact k19_2
  have k20_6 : Kd G0 h20 (n + 37) (.inl 1) := by rw [z20]; exact k19_6
  have r20_1 : rf h20 o ((1 : Nat) : Int) = some (n + 13) := by rw [z20, rf_sr, if_neg (fun z => absurd z.2 (by decide))]; exact r19_1
  clear n19 k19_0 k19_2 k19_6 r19_1
  refine J_aload_n rfl dX7_init_79 ?_
  refine J_bw (b' := 16811 + (2 + 1)) (Nat.le_of_ble_eq_true rfl) ?_
  refine J_newe (b := 16811) (ci := 6) (q0 := (RX6, TX6, 2)) n20 rfl cl_RX7_52 ci_RX6 cn_RX6 (fun k hk => dfl6 k hk) dX7_init_80 ?_
  refine J_gz (fun h21 z21 => ?_)
  have n21 : hn h21 = (n + 41) := by rw [z21]; rfl
  have k21_0 : Kd G0 h21 o (.inl 7) := by rw [z21]; exact Kd_nwn k20_0 n20
  have k21_2 : Kd G0 h21 (n + 13) (.inr (3, 2)) := by rw [z21]; exact Kd_nwn k20_2 n20
  have k21_7 : Kd G0 h21 (n + 40) (.inl 6) := by rw [z21]; exact Kd_new0
  have r21_1 : rf h21 o ((1 : Nat) : Int) = some (n + 13) := by rw [z21, rf_nwn, if_neg (ne_addN on2)]; exact r20_1
  clear n20 k20_0 k20_2 r20_1
  refine J_dup rfl dX7_init_83 ?_
  refine J_bw (b' := 13057 + 3754) (Nat.le_of_ble_eq_true rfl) ?_
  refine J_callI (b1 := 13057) (b2 := 3754) (vs := []) (rest := [vR (some (n + 40)), vR (some o)]) (Or.inr rfl) ml_RX7_54 rfl rfl (Nat.le_of_ble_eq_true rfl) (Nat.le_of_ble_eq_true rfl) rfl dX7_init_84 (c_trailH k21_7 n21 ?_)
  show J G0 _ _ _ _ _ _ [vR (some (n + 40)), vR (some o)] _
  refine J_gz (fun h22 z22 => ?_)
  have n22 : hn h22 = (n + 42) := by rw [z22]; rfl
  have k22_0 : Kd G0 h22 o (.inl 7) := by exact Kd_of k21_0 (by rw [z22]; exact kd_trailH (by have := (Kd0 k21_0).2; omega)) (by omega)
  have k22_2 : Kd G0 h22 (n + 13) (.inr (3, 2)) := by exact Kd_of k21_2 (by rw [z22]; exact kd_trailH (by have := (Kd0 k21_2).2; omega)) (by omega)
  have k22_7 : Kd G0 h22 (n + 40) (.inl 6) := by exact Kd_of k21_7 (by rw [z22]; exact kd_trailH (by have := (Kd0 k21_7).2; omega)) (by omega)
  have r22_1 : rf h22 o ((1 : Nat) : Int) = some (n + 13) := by rw [z22, rf_trailH (by omega) (ne_addN on2)]; exact r21_1
  clear n21 k21_0 k21_2 k21_7 r21_1
  refine J_putRF fl_RX7_55 (by first | exact Or.inl ⟨_, rfl⟩ | exact Or.inr ⟨_, rfl⟩) (Or.inl rfl) rfl fs_RX7_55 k22_0 dX7_init_87 ?_
  refine J_gz (fun h23 z23 => ?_)
  have n23 : hn h23 = (n + 42) := by rw [z23]; exact n22
  have k23_0 : Kd G0 h23 o (.inl 7) := by rw [z23]; exact k22_0
  have k23_2 : Kd G0 h23 (n + 13) (.inr (3, 2)) := by rw [z23]; exact k22_2
  have k23_7 : Kd G0 h23 (n + 40) (.inl 6) := by rw [z23]; exact k22_7
  have r23_1 : rf h23 o ((1 : Nat) : Int) = some (n + 13) := by rw [z23, rf_sr, if_neg (fun z => absurd z.2 (by decide))]; exact r22_1
  clear n22 k22_0 k22_2 k22_7 r22_1
  refine J_aload_n rfl dX7_init_90 ?_
  refine J_bw (b' := 3747 + (6 + 1)) (Nat.le_of_ble_eq_true rfl) ?_
  refine J_newe (b := 3747) (ci := 2) (q0 := (RX2, TX2, 6)) n23 rfl cl_RX7_59 ci_RX2 cn_RX2 (fun k hk => dfl2 k hk) dX7_init_91 ?_
  refine J_gz (fun h24 z24 => ?_)
  have n24 : hn h24 = (n + 43) := by rw [z24]; rfl
  have k24_0 : Kd G0 h24 o (.inl 7) := by rw [z24]; exact Kd_nwn k23_0 n23
  have k24_2 : Kd G0 h24 (n + 13) (.inr (3, 2)) := by rw [z24]; exact Kd_nwn k23_2 n23
  have k24_8 : Kd G0 h24 (n + 42) (.inl 2) := by rw [z24]; exact Kd_new0
  have r24_1 : rf h24 o ((1 : Nat) : Int) = some (n + 13) := by rw [z24, rf_nwn, if_neg (ne_addN on2)]; exact r23_1
  clear n23 k23_0 k23_2 r23_1
  refine J_dup rfl dX7_init_94 ?_
  refine J_bw (b' := 3421 + 326) (Nat.le_of_ble_eq_true rfl) ?_
  refine J_callI (b1 := 3421) (b2 := 326) (vs := []) (rest := [vR (some (n + 42)), vR (some o)]) (Or.inr rfl) ml_RX7_61 rfl rfl (Nat.le_of_ble_eq_true rfl) (Nat.le_of_ble_eq_true rfl) rfl dX7_init_95 (c_paperH k24_8 n24 ?_)
  show J G0 _ _ _ _ _ _ [vR (some (n + 42)), vR (some o)] _
  refine J_gz (fun h25 z25 => ?_)
  have n25 : hn h25 = (n + 49) := by rw [z25]; rfl
  have k25_0 : Kd G0 h25 o (.inl 7) := by exact Kd_of k24_0 (by rw [z25]; exact kd_paperH (by have := (Kd0 k24_0).2; omega)) (by omega)
  have k25_2 : Kd G0 h25 (n + 13) (.inr (3, 2)) := by exact Kd_of k24_2 (by rw [z25]; exact kd_paperH (by have := (Kd0 k24_2).2; omega)) (by omega)
  have k25_8 : Kd G0 h25 (n + 42) (.inl 2) := by exact Kd_of k24_8 (by rw [z25]; exact kd_paperH (by have := (Kd0 k24_8).2; omega)) (by omega)
  have r25_1 : rf h25 o ((1 : Nat) : Int) = some (n + 13) := by rw [z25, rf_paperH (by omega) (ne_addN on2)]; exact r24_1
  clear n24 k24_0 k24_2 k24_8 r24_1
  refine J_putRF fl_RX7_62 (by first | exact Or.inl ⟨_, rfl⟩ | exact Or.inr ⟨_, rfl⟩) (Or.inl rfl) rfl fs_RX7_62 k25_0 dX7_init_98 ?_
  refine J_gz (fun h26 z26 => ?_)
  have n26 : hn h26 = (n + 49) := by rw [z26]; exact n25
  have k26_0 : Kd G0 h26 o (.inl 7) := by rw [z26]; exact k25_0
  have k26_2 : Kd G0 h26 (n + 13) (.inr (3, 2)) := by rw [z26]; exact k25_2
  have k26_8 : Kd G0 h26 (n + 42) (.inl 2) := by rw [z26]; exact k25_8
  have r26_1 : rf h26 o ((1 : Nat) : Int) = some (n + 13) := by rw [z26, rf_sr, if_neg (fun z => absurd z.2 (by decide))]; exact r25_1
  clear n25 k25_0 k25_2 k25_8 r25_1
  refine J_aload_n rfl dX7_init_101 ?_
  refine J_iconst (by decide) dX7_init_102 ?_
  refine J_putI fl_RX7_66 rfl k26_0 dX7_init_103 ?_
  refine J_gz (fun h27 z27 => ?_)
  have n27 : hn h27 = (n + 49) := by rw [z27]; exact n26
  have k27_0 : Kd G0 h27 o (.inl 7) := by rw [z27]; exact k26_0
  have k27_2 : Kd G0 h27 (n + 13) (.inr (3, 2)) := by rw [z27]; exact k26_2
  have r27_1 : rf h27 o ((1 : Nat) : Int) = some (n + 13) := by rw [z27]; exact r26_1
  clear n26 k26_0 k26_2 r26_1
  refine J_aload_n rfl dX7_init_106 ?_
  refine J_iconst (by decide) dX7_init_107 ?_
  refine J_putI fl_RX7_70 rfl k27_0 dX7_init_108 ?_
  refine J_gz (fun h28 z28 => ?_)
  have n28 : hn h28 = (n + 49) := by rw [z28]; exact n27
  have k28_0 : Kd G0 h28 o (.inl 7) := by rw [z28]; exact k27_0
  have k28_2 : Kd G0 h28 (n + 13) (.inr (3, 2)) := by rw [z28]; exact k27_2
  have r28_1 : rf h28 o ((1 : Nat) : Int) = some (n + 13) := by rw [z28]; exact r27_1
  clear n27 k27_0 k27_2 r27_1
  refine J_aload_n rfl dX7_init_111 ?_
  refine J_iconst (by decide) dX7_init_112 ?_
  refine J_putI fl_RX7_73 rfl k28_0 dX7_init_113 ?_
  refine J_gz (fun h29 z29 => ?_)
  have n29 : hn h29 = (n + 49) := by rw [z29]; exact n28
  have k29_0 : Kd G0 h29 o (.inl 7) := by rw [z29]; exact k28_0
  have k29_2 : Kd G0 h29 (n + 13) (.inr (3, 2)) := by rw [z29]; exact k28_2
  have r29_1 : rf h29 o ((1 : Nat) : Int) = some (n + 13) := by rw [z29]; exact r28_1
  clear n28 k28_0 k28_2 r28_1
  refine J_aload_n rfl dX7_init_116 ?_
  refine J_iconst (by decide) dX7_init_117 ?_
  refine J_putI fl_RX7_76 rfl k29_0 dX7_init_118 ?_
  refine J_gz (fun h30 z30 => ?_)
  have n30 : hn h30 = (n + 49) := by rw [z30]; exact n29
  have k30_0 : Kd G0 h30 o (.inl 7) := by rw [z30]; exact k29_0
  have k30_2 : Kd G0 h30 (n + 13) (.inr (3, 2)) := by rw [z30]; exact k29_2
  have r30_1 : rf h30 o ((1 : Nat) : Int) = some (n + 13) := by rw [z30]; exact r29_1
  clear n29 k29_0 k29_2 r29_1
  refine J_aload_n rfl dX7_init_121 ?_
  refine J_iconst (by decide) dX7_init_122 ?_
  refine J_putI fl_RX7_79 rfl k30_0 dX7_init_123 ?_
  refine J_gz (fun h31 z31 => ?_)
  have n31 : hn h31 = (n + 49) := by rw [z31]; exact n30
  have k31_0 : Kd G0 h31 o (.inl 7) := by rw [z31]; exact k30_0
  have k31_2 : Kd G0 h31 (n + 13) (.inr (3, 2)) := by rw [z31]; exact k30_2
  have r31_1 : rf h31 o ((1 : Nat) : Int) = some (n + 13) := by rw [z31]; exact r30_1
  clear n30 k30_0 k30_2 r30_1
  refine J_aload_n rfl dX7_init_126 ?_
  refine J_iconst (by decide) dX7_init_127 ?_
  refine J_bw (b' := 320 + (5 + 1)) (Nat.le_of_ble_eq_true rfl) ?_
  refine J_newarray0e (b := 320) (N := 5) n31 (Nat.le_of_ble_eq_true rfl) rfl ac_i dX7_init_128 ?_
  refine J_gz (fun h32 z32 => ?_)
  have n32 : hn h32 = (n + 50) := by rw [z32]; rfl
  have k32_0 : Kd G0 h32 o (.inl 7) := by rw [z32]; exact Kd_nwn k31_0 n31
  have k32_2 : Kd G0 h32 (n + 13) (.inr (3, 2)) := by rw [z32]; exact Kd_nwn k31_2 n31
  have r32_1 : rf h32 o ((1 : Nat) : Int) = some (n + 13) := by rw [z32, rf_nwn, if_neg (ne_addN on2)]; exact r31_1
  clear n31 k31_0 k31_2 r31_1
  refine J_putRF fl_RX7_82 (by first | exact Or.inl ⟨_, rfl⟩ | exact Or.inr ⟨_, rfl⟩) (Or.inl rfl) rfl fs_RX7_82 k32_0 dX7_init_130 ?_
  refine J_gz (fun h33 z33 => ?_)
  have n33 : hn h33 = (n + 50) := by rw [z33]; exact n32
  have k33_0 : Kd G0 h33 o (.inl 7) := by rw [z33]; exact k32_0
  have k33_2 : Kd G0 h33 (n + 13) (.inr (3, 2)) := by rw [z33]; exact k32_2
  have r33_1 : rf h33 o ((1 : Nat) : Int) = some (n + 13) := by rw [z33, rf_sr, if_neg (fun z => absurd z.2 (by decide))]; exact r32_1
  clear n32 k32_0 k32_2 r32_1
  refine J_iconst (by decide) dX7_init_133 ?_
  refine J_istore_n (loc' := [some (vR (some o)), some (vI 0)]) (by decide) rfl dX7_init_134 ?_
  refine J_iload_n rfl dX7_init_135 ?_
  refine J_iconst (by decide) dX7_init_136 ?_
  refine J_icmp_ge (tgt := 159) dX7_init_137 (by decide) (fun c => absurd c (by decide)) (fun _ => ?_)
  refine J_aload_n rfl dX7_init_140 ?_
  refine J_getRe (r := (n + 13)) fl_RX7_16 rfl k33_0 r33_1 dX7_init_141 ?_
  refine J_iload_n rfl dX7_init_144 ?_
  refine J_bw (b' := 300 + (19 + 1)) (Nat.le_of_ble_eq_true rfl) ?_
  refine J_newe (b := 300) (ci := 0) (q0 := (RX0, TX0, 19)) n33 rfl cl_RX7_7 ci_RX0 cn_RX0 (fun k hk => dfl0 k hk) dX7_init_145 ?_
  refine J_gz (fun h34 z34 => ?_)
  have n34 : hn h34 = (n + 51) := by rw [z34]; rfl
  have k34_0 : Kd G0 h34 o (.inl 7) := by rw [z34]; exact Kd_nwn k33_0 n33
  have k34_2 : Kd G0 h34 (n + 13) (.inr (3, 2)) := by rw [z34]; exact Kd_nwn k33_2 n33
  have k34_9 : Kd G0 h34 (n + 50) (.inl 0) := by rw [z34]; exact Kd_new0
  have r34_1 : rf h34 o ((1 : Nat) : Int) = some (n + 13) := by rw [z34, rf_nwn, if_neg (ne_addN on2)]; exact r33_1
  clear n33 k33_0 k33_2 r33_1
  refine J_dup rfl dX7_init_148 ?_
  refine J_bw (b' := 140 + 160) (Nat.le_of_ble_eq_true rfl) ?_
  refine J_callI (b1 := 140) (b2 := 160) (vs := []) (rest := [vR (some (n + 50)), vI 0, vR (some (n + 13))]) (Or.inr rfl) ml_RX7_9 rfl rfl (Nat.le_of_ble_eq_true rfl) (Nat.le_of_ble_eq_true rfl) rfl dX7_init_149 (c_isleH k34_9 n34 ?_)
  show J G0 _ _ _ _ _ _ [vR (some (n + 50)), vI 0, vR (some (n + 13))] _
  refine J_gz (fun h35 z35 => ?_)
  have n35 : hn h35 = (n + 63) := by rw [z35]; rfl
  have k35_0 : Kd G0 h35 o (.inl 7) := by exact Kd_of k34_0 (by rw [z35]; exact kd_isleH (by have := (Kd0 k34_0).2; omega)) (by omega)
  have k35_2 : Kd G0 h35 (n + 13) (.inr (3, 2)) := by exact Kd_of k34_2 (by rw [z35]; exact kd_isleH (by have := (Kd0 k34_2).2; omega)) (by omega)
  have k35_9 : Kd G0 h35 (n + 50) (.inl 0) := by exact Kd_of k34_9 (by rw [z35]; exact kd_isleH (by have := (Kd0 k34_9).2; omega)) (by omega)
  have r35_1 : rf h35 o ((1 : Nat) : Int) = some (n + 13) := by rw [z35, rf_isleH (by omega) (ne_addN on2)]; exact r34_1
  clear n34 k34_0 k34_2 k34_9 r34_1
  refine J_aastore3 k35_2 (by decide) (Or.inl rfl) (fun r e => by cases e; exact k35_9) dX7_init_152 ?_
  refine J_gz (fun h36 z36 => ?_)
  have n36 : hn h36 = (n + 63) := by rw [z36]; exact n35
  have k36_0 : Kd G0 h36 o (.inl 7) := by rw [z36]; exact k35_0
  have k36_2 : Kd G0 h36 (n + 13) (.inr (3, 2)) := by rw [z36]; exact k35_2
  have k36_9 : Kd G0 h36 (n + 50) (.inl 0) := by rw [z36]; exact k35_9
  have r36_1 : rf h36 o ((1 : Nat) : Int) = some (n + 13) := by rw [z36, rf_sr, if_neg (fun z => absurd z.1 (ne_addN on2))]; exact r35_1
  clear n35 k35_0 k35_2 k35_9 r35_1
  refine J_iinc (loc' := [some (vR (some o)), some (vI 1)]) (by decide) rfl (by decide) rfl dX7_init_153 ?_
  refine J_goto (tgt := 135) dX7_init_156 (by decide) ?_
  refine J_iload_n rfl dX7_init_135 ?_
  refine J_iconst (by decide) dX7_init_136 ?_
  refine J_icmp_ge (tgt := 159) dX7_init_137 (by decide) (fun c => absurd c (by decide)) (fun _ => ?_)
  refine J_aload_n rfl dX7_init_140 ?_
  refine J_getRe (r := (n + 13)) fl_RX7_16 rfl k36_0 r36_1 dX7_init_141 ?_
  refine J_iload_n rfl dX7_init_144 ?_
  refine J_bw (b' := 140 + (19 + 1)) (Nat.le_of_ble_eq_true rfl) ?_
  refine J_newe (b := 140) (ci := 0) (q0 := (RX0, TX0, 19)) n36 rfl cl_RX7_7 ci_RX0 cn_RX0 (fun k hk => dfl0 k hk) dX7_init_145 ?_
  refine J_gz (fun h37 z37 => ?_)
  have n37 : hn h37 = (n + 64) := by rw [z37]; rfl
  have k37_0 : Kd G0 h37 o (.inl 7) := by rw [z37]; exact Kd_nwn k36_0 n36
  have k37_2 : Kd G0 h37 (n + 13) (.inr (3, 2)) := by rw [z37]; exact Kd_nwn k36_2 n36
  have k37_10 : Kd G0 h37 (n + 63) (.inl 0) := by rw [z37]; exact Kd_new0
  have r37_1 : rf h37 o ((1 : Nat) : Int) = some (n + 13) := by rw [z37, rf_nwn, if_neg (ne_addN on2)]; exact r36_1
  clear n36 k36_0 k36_2 r36_1
  refine J_dup rfl dX7_init_148 ?_
  refine J_bw (b' := 140 + 0) (Nat.le_of_ble_eq_true rfl) ?_
  refine J_callI (b1 := 140) (b2 := 0) (vs := []) (rest := [vR (some (n + 63)), vI 1, vR (some (n + 13))]) (Or.inr rfl) ml_RX7_9 rfl rfl (Nat.le_of_ble_eq_true rfl) (Nat.le_of_ble_eq_true rfl) rfl dX7_init_149 (c_isleH k37_10 n37 ?_)
  show J G0 _ _ _ _ _ _ [vR (some (n + 63)), vI 1, vR (some (n + 13))] _
  refine J_gz (fun h38 z38 => ?_)
  have n38 : hn h38 = (n + 76) := by rw [z38]; rfl
  have k38_0 : Kd G0 h38 o (.inl 7) := by exact Kd_of k37_0 (by rw [z38]; exact kd_isleH (by have := (Kd0 k37_0).2; omega)) (by omega)
  have k38_2 : Kd G0 h38 (n + 13) (.inr (3, 2)) := by exact Kd_of k37_2 (by rw [z38]; exact kd_isleH (by have := (Kd0 k37_2).2; omega)) (by omega)
  have k38_10 : Kd G0 h38 (n + 63) (.inl 0) := by exact Kd_of k37_10 (by rw [z38]; exact kd_isleH (by have := (Kd0 k37_10).2; omega)) (by omega)
  have r38_1 : rf h38 o ((1 : Nat) : Int) = some (n + 13) := by rw [z38, rf_isleH (by omega) (ne_addN on2)]; exact r37_1
  clear n37 k37_0 k37_2 k37_10 r37_1
  refine J_aastore3 k38_2 (by decide) (Or.inl rfl) (fun r e => by cases e; exact k38_10) dX7_init_152 ?_
  refine J_gz (fun h39 z39 => ?_)
  have n39 : hn h39 = (n + 76) := by rw [z39]; exact n38
  have k39_0 : Kd G0 h39 o (.inl 7) := by rw [z39]; exact k38_0
  have k39_2 : Kd G0 h39 (n + 13) (.inr (3, 2)) := by rw [z39]; exact k38_2
  have k39_10 : Kd G0 h39 (n + 63) (.inl 0) := by rw [z39]; exact k38_10
  have r39_1 : rf h39 o ((1 : Nat) : Int) = some (n + 13) := by rw [z39, rf_sr, if_neg (fun z => absurd z.1 (ne_addN on2))]; exact r38_1
  clear n38 k38_0 k38_2 k38_10 r38_1
  refine J_iinc (loc' := [some (vR (some o)), some (vI 2)]) (by decide) rfl (by decide) rfl dX7_init_153 ?_
  refine J_goto (tgt := 135) dX7_init_156 (by decide) ?_
  refine J_iload_n rfl dX7_init_135 ?_
  refine J_iconst (by decide) dX7_init_136 ?_
  refine J_icmp_ge (tgt := 159) dX7_init_137 (by decide) (fun _ => ?_) (fun c => absurd c (by decide))
  subst z39 z38 z37 z36 z35 z34 z33 z32 z31 z30 z29 z28 z27 z26 z25 z24 z23 z22 z21 z20 z19 z18 z17 z16 z15 z14 z13 z12 z11 z10 z9 z8 z7 z6 z5 z4 z3 z2 z1
  exact J_return rfl dX7_init_159 K
