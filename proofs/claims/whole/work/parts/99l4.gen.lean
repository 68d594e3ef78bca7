def fleetH0 (h : AH) (o n : Nat) : AH := nwn (sr (nwn (sr (isleH (nwn (sr (isleH (nwn (sr (isleH (nwn h n (.inl 0)) n (n + 1)) o ((0 : Nat) : Int) (some n)) (n + 13) (.inl 0)) (n + 13) (n + 14)) o ((1 : Nat) : Int) (some (n + 13))) (n + 26) (.inl 0)) (n + 26) (n + 27)) o ((16 : Nat) : Int) (some (n + 26))) (n + 39) (.inr (1, 2))) o ((2 : Nat) : Int) (some (n + 39))) (n + 40) (.inl 0)
def fleetH1 (h : AH) (o n : Nat) : AH := sr (judgeH (nwn (sr (readerH (nwn (sr (tapeH (nwn (si (sr (isleH (fleetH0 h o n) (n + 40) (n + 41)) o ((3 : Nat) : Int) (some (n + 40))) o ((4 : Nat) : Int) 0) (n + 53) (.inl 4)) (n + 53) (n + 54)) o ((5 : Nat) : Int) (some (n + 53))) (n + 55) (.inl 3)) (n + 55) (n + 56)) o ((6 : Nat) : Int) (some (n + 55))) (n + 62) (.inl 1)) (n + 62) (n + 63)) o ((7 : Nat) : Int) (some (n + 62))
def fleetH2 (h : AH) (o n : Nat) : AH := nwn (si (si (si (si (si (sr (paperH (nwn (sr (trailH (nwn (fleetH1 h o n) (n + 65) (.inl 6)) (n + 65) (n + 66)) o ((8 : Nat) : Int) (some (n + 65))) (n + 67) (.inl 2)) (n + 67) (n + 68)) o ((9 : Nat) : Int) (some (n + 67))) o ((10 : Nat) : Int) 0) o ((11 : Nat) : Int) (-1)) o ((12 : Nat) : Int) 0) o ((13 : Nat) : Int) (-1)) o ((14 : Nat) : Int) 0) (n + 74) (.inr (0, 5))
def fleetH (h : AH) (o n : Nat) : AH := sr (fleetH2 h o n) o ((15 : Nat) : Int) (some (n + 74))
set_option maxRecDepth 20000 in
set_option maxHeartbeats 4000000 in
theorem c_fleetH {d : Nat} {Q : Option AV → AH → Prop} {h : AH} {o n : Nat} (k0 : Kd G0 h o (.inl 7)) (n0 : hn h = n) (K : Q none (fleetH h o n)) : WM G0 (d + 3) 19840 mX7_init [vR (some o)] h Q := by
  have on2 : o < n := by rw [← n0]; exact (Kd0 k0).2
  refine WM_introE (loc' := [some (vR (some o))]) rfl (by decide) (Nat.le_of_ble_eq_true rfl) ?_
  refine J_aload_n rfl dX7_init_0 ?_
  refine J_objinit ml_RX7_1 (Nat.le_of_ble_eq_true rfl) dX7_init_1 ?_
  refine J_aload_n rfl dX7_init_4 ?_
  refine J_bw (b' := 19820 + (19 + 1)) (Nat.le_of_ble_eq_true rfl) ?_
  refine J_newe (b := 19820) (ci := 0) (q0 := (RX0, TX0, 19)) n0 rfl cl_RX7_7 ci_RX0 cn_RX0 (fun k hk => dfl0 k hk) dX7_init_5 ?_
  refine J_gz (fun h1 z1 => ?_)
  have n1 : hn h1 = (n + 1) := by rw [z1]; rfl
  have k1_0 : Kd G0 h1 o (.inl 7) := by rw [z1]; exact Kd_nwn k0 n0
  have k1_1 : Kd G0 h1 n (.inl 0) := by rw [z1]; exact Kd_new0
  refine J_dup rfl dX7_init_8 ?_
  refine J_bw (b' := 140 + 19680) (Nat.le_of_ble_eq_true rfl) ?_
  refine J_callI (b1 := 140) (b2 := 19680) (vs := []) (rest := [vR (some n), vR (some o)]) (Or.inr rfl) ml_RX7_9 rfl rfl (Nat.le_of_ble_eq_true rfl) (Nat.le_of_ble_eq_true rfl) rfl dX7_init_9 (c_isleH k1_1 n1 ?_)
  show J G0 _ _ _ _ _ _ [vR (some n), vR (some o)] _
  refine J_gz (fun h2 z2 => ?_)
  have n2 : hn h2 = (n + 13) := by rw [z2]; rfl
  have k2_0 : Kd G0 h2 o (.inl 7) := by exact Kd_of k1_0 (by rw [z2]; exact kd_isleH (by have := (Kd0 k1_0).2; omega)) (by omega)
  have k2_1 : Kd G0 h2 n (.inl 0) := by exact Kd_of k1_1 (by rw [z2]; exact kd_isleH (by have := (Kd0 k1_1).2; omega)) (by omega)
  clear n1 k1_0 k1_1
  refine J_putRF fl_RX7_10 (by first | exact Or.inl ⟨_, rfl⟩ | exact Or.inr ⟨_, rfl⟩) (Or.inl rfl) rfl fs_RX7_10 k2_0 dX7_init_12 ?_
  refine J_gz (fun h3 z3 => ?_)
  have n3 : hn h3 = (n + 13) := by rw [z3]; exact n2
  have k3_0 : Kd G0 h3 o (.inl 7) := by rw [z3]; exact k2_0
  have k3_1 : Kd G0 h3 n (.inl 0) := by rw [z3]; exact k2_1
  clear n2 k2_0 k2_1
  refine J_aload_n rfl dX7_init_15 ?_
  refine J_bw (b' := 19660 + (19 + 1)) (Nat.le_of_ble_eq_true rfl) ?_
  refine J_newe (b := 19660) (ci := 0) (q0 := (RX0, TX0, 19)) n3 rfl cl_RX7_7 ci_RX0 cn_RX0 (fun k hk => dfl0 k hk) dX7_init_16 ?_
  refine J_gz (fun h4 z4 => ?_)
  have n4 : hn h4 = (n + 14) := by rw [z4]; rfl
  have k4_0 : Kd G0 h4 o (.inl 7) := by rw [z4]; exact Kd_nwn k3_0 n3
  have k4_2 : Kd G0 h4 (n + 13) (.inl 0) := by rw [z4]; exact Kd_new0
  clear n3 k3_0
  refine J_dup rfl dX7_init_19 ?_
  refine J_bw (b' := 140 + 19520) (Nat.le_of_ble_eq_true rfl) ?_
  refine J_callI (b1 := 140) (b2 := 19520) (vs := []) (rest := [vR (some (n + 13)), vR (some o)]) (Or.inr rfl) ml_RX7_9 rfl rfl (Nat.le_of_ble_eq_true rfl) (Nat.le_of_ble_eq_true rfl) rfl dX7_init_20 (c_isleH k4_2 n4 ?_)
  show J G0 _ _ _ _ _ _ [vR (some (n + 13)), vR (some o)] _
  refine J_gz (fun h5 z5 => ?_)
  have n5 : hn h5 = (n + 26) := by rw [z5]; rfl
  have k5_0 : Kd G0 h5 o (.inl 7) := by exact Kd_of k4_0 (by rw [z5]; exact kd_isleH (by have := (Kd0 k4_0).2; omega)) (by omega)
  have k5_2 : Kd G0 h5 (n + 13) (.inl 0) := by exact Kd_of k4_2 (by rw [z5]; exact kd_isleH (by have := (Kd0 k4_2).2; omega)) (by omega)
  clear n4 k4_0 k4_2
  refine J_putRF fl_RX7_16 (by first | exact Or.inl ⟨_, rfl⟩ | exact Or.inr ⟨_, rfl⟩) (Or.inl rfl) rfl fs_RX7_16 k5_0 dX7_init_23 ?_
  refine J_gz (fun h6 z6 => ?_)
  have n6 : hn h6 = (n + 26) := by rw [z6]; exact n5
  have k6_0 : Kd G0 h6 o (.inl 7) := by rw [z6]; exact k5_0
  have k6_2 : Kd G0 h6 (n + 13) (.inl 0) := by rw [z6]; exact k5_2
  clear n5 k5_0 k5_2
  refine J_aload_n rfl dX7_init_26 ?_
  refine J_bw (b' := 19500 + (19 + 1)) (Nat.le_of_ble_eq_true rfl) ?_
  refine J_newe (b := 19500) (ci := 0) (q0 := (RX0, TX0, 19)) n6 rfl cl_RX7_7 ci_RX0 cn_RX0 (fun k hk => dfl0 k hk) dX7_init_27 ?_
  refine J_gz (fun h7 z7 => ?_)
  have n7 : hn h7 = (n + 27) := by rw [z7]; rfl
  have k7_0 : Kd G0 h7 o (.inl 7) := by rw [z7]; exact Kd_nwn k6_0 n6
  have k7_3 : Kd G0 h7 (n + 26) (.inl 0) := by rw [z7]; exact Kd_new0
  clear n6 k6_0
  refine J_dup rfl dX7_init_30 ?_
  refine J_bw (b' := 140 + 19360) (Nat.le_of_ble_eq_true rfl) ?_
  refine J_callI (b1 := 140) (b2 := 19360) (vs := []) (rest := [vR (some (n + 26)), vR (some o)]) (Or.inr rfl) ml_RX7_9 rfl rfl (Nat.le_of_ble_eq_true rfl) (Nat.le_of_ble_eq_true rfl) rfl dX7_init_31 (c_isleH k7_3 n7 ?_)
  show J G0 _ _ _ _ _ _ [vR (some (n + 26)), vR (some o)] _
  refine J_gz (fun h8 z8 => ?_)
  have n8 : hn h8 = (n + 39) := by rw [z8]; rfl
  have k8_0 : Kd G0 h8 o (.inl 7) := by exact Kd_of k7_0 (by rw [z8]; exact kd_isleH (by have := (Kd0 k7_0).2; omega)) (by omega)
  have k8_3 : Kd G0 h8 (n + 26) (.inl 0) := by exact Kd_of k7_3 (by rw [z8]; exact kd_isleH (by have := (Kd0 k7_3).2; omega)) (by omega)
  clear n7 k7_0 k7_3
  refine J_putRF fl_RX7_19 (by first | exact Or.inl ⟨_, rfl⟩ | exact Or.inr ⟨_, rfl⟩) (Or.inl rfl) rfl fs_RX7_19 k8_0 dX7_init_34 ?_
  refine J_gz (fun h9 z9 => ?_)
  have n9 : hn h9 = (n + 39) := by rw [z9]; exact n8
  have k9_0 : Kd G0 h9 o (.inl 7) := by rw [z9]; exact k8_0
  have k9_3 : Kd G0 h9 (n + 26) (.inl 0) := by rw [z9]; exact k8_3
  clear n8 k8_0 k8_3
  refine J_aload_n rfl dX7_init_37 ?_
  refine J_iconst (by decide) dX7_init_38 ?_
  refine J_bw (b' := 19357 + (2 + 1)) (Nat.le_of_ble_eq_true rfl) ?_
  refine J_newarray1e (b := 19357) (N := 2) n9 (Nat.le_of_ble_eq_true rfl) rfl ac_z dX7_init_39 ?_
  refine J_gz (fun h10 z10 => ?_)
  have n10 : hn h10 = (n + 40) := by rw [z10]; rfl
  have k10_0 : Kd G0 h10 o (.inl 7) := by rw [z10]; exact Kd_nwn k9_0 n9
  clear n9 k9_0
  refine J_putRF fl_RX7_22 (by first | exact Or.inl ⟨_, rfl⟩ | exact Or.inr ⟨_, rfl⟩) (Or.inl rfl) rfl fs_RX7_22 k10_0 dX7_init_41 ?_
  refine J_gz (fun h11 z11 => ?_)
  have n11 : hn h11 = (n + 40) := by rw [z11]; exact n10
  have k11_0 : Kd G0 h11 o (.inl 7) := by rw [z11]; exact k10_0
  clear n10 k10_0
  refine J_aload_n rfl dX7_init_44 ?_
  refine J_bw (b' := 19337 + (19 + 1)) (Nat.le_of_ble_eq_true rfl) ?_
  refine J_newe (b := 19337) (ci := 0) (q0 := (RX0, TX0, 19)) n11 rfl cl_RX7_7 ci_RX0 cn_RX0 (fun k hk => dfl0 k hk) dX7_init_45 ?_
  refine J_gz (fun h12 z12 => ?_)
  have n12 : hn h12 = (n + 41) := by rw [z12]; rfl
  have k12_0 : Kd G0 h12 o (.inl 7) := by rw [z12]; exact Kd_nwn k11_0 n11
  have k12_4 : Kd G0 h12 (n + 40) (.inl 0) := by rw [z12]; exact Kd_new0
  clear n11 k11_0
  refine J_dup rfl dX7_init_48 ?_
  refine J_bw (b' := 140 + 19197) (Nat.le_of_ble_eq_true rfl) ?_
  refine J_callI (b1 := 140) (b2 := 19197) (vs := []) (rest := [vR (some (n + 40)), vR (some o)]) (Or.inr rfl) ml_RX7_9 rfl rfl (Nat.le_of_ble_eq_true rfl) (Nat.le_of_ble_eq_true rfl) rfl dX7_init_49 (c_isleH k12_4 n12 ?_)
  show J G0 _ _ _ _ _ _ [vR (some (n + 40)), vR (some o)] _
  refine J_gz (fun h13 z13 => ?_)
  have n13 : hn h13 = (n + 53) := by rw [z13]; rfl
  have k13_0 : Kd G0 h13 o (.inl 7) := by exact Kd_of k12_0 (by rw [z13]; exact kd_isleH (by have := (Kd0 k12_0).2; omega)) (by omega)
  have k13_4 : Kd G0 h13 (n + 40) (.inl 0) := by exact Kd_of k12_4 (by rw [z13]; exact kd_isleH (by have := (Kd0 k12_4).2; omega)) (by omega)
  clear n12 k12_0 k12_4
  refine J_putRF fl_RX7_26 (by first | exact Or.inl ⟨_, rfl⟩ | exact Or.inr ⟨_, rfl⟩) (Or.inl rfl) rfl fs_RX7_26 k13_0 dX7_init_52 ?_
  refine J_gz (fun h14 z14 => ?_)
  have n14 : hn h14 = (n + 53) := by rw [z14]; exact n13
  have k14_0 : Kd G0 h14 o (.inl 7) := by rw [z14]; exact k13_0
  have k14_4 : Kd G0 h14 (n + 40) (.inl 0) := by rw [z14]; exact k13_4
  clear n13 k13_0 k13_4
  refine J_aload_n rfl dX7_init_55 ?_
  refine J_iconst (by decide) dX7_init_56 ?_
  refine J_putZ fl_RX7_29 rfl (by decide) k14_0 dX7_init_57 ?_
  refine J_gz (fun h15 z15 => ?_)
  have n15 : hn h15 = (n + 53) := by rw [z15]; exact n14
  have k15_0 : Kd G0 h15 o (.inl 7) := by rw [z15]; exact k14_0
  clear n14 k14_0
  refine J_aload_n rfl dX7_init_60 ?_
  refine J_bw (b' := 19194 + (2 + 1)) (Nat.le_of_ble_eq_true rfl) ?_
  refine J_newe (b := 19194) (ci := 4) (q0 := (RX4, TX4, 2)) n15 rfl cl_RX7_33 ci_RX4 cn_RX4 (fun k hk => dfl4 k hk) dX7_init_61 ?_
  refine J_gz (fun h16 z16 => ?_)
  have n16 : hn h16 = (n + 54) := by rw [z16]; rfl
  have k16_0 : Kd G0 h16 o (.inl 7) := by rw [z16]; exact Kd_nwn k15_0 n15
  have k16_5 : Kd G0 h16 (n + 53) (.inl 4) := by rw [z16]; exact Kd_new0
  clear n15 k15_0
  refine J_dup rfl dX7_init_64 ?_
  refine J_bw (b' := 401 + 18793) (Nat.le_of_ble_eq_true rfl) ?_
  refine J_callI (b1 := 401) (b2 := 18793) (vs := []) (rest := [vR (some (n + 53)), vR (some o)]) (Or.inr rfl) ml_RX7_35 rfl rfl (Nat.le_of_ble_eq_true rfl) (Nat.le_of_ble_eq_true rfl) rfl dX7_init_65 (c_tapeH k16_5 n16 ?_)
  show J G0 _ _ _ _ _ _ [vR (some (n + 53)), vR (some o)] _
  refine J_gz (fun h17 z17 => ?_)
  have n17 : hn h17 = (n + 55) := by rw [z17]; rfl
  have k17_0 : Kd G0 h17 o (.inl 7) := by exact Kd_of k16_0 (by rw [z17]; exact kd_tapeH (by have := (Kd0 k16_0).2; omega)) (by omega)
  have k17_5 : Kd G0 h17 (n + 53) (.inl 4) := by exact Kd_of k16_5 (by rw [z17]; exact kd_tapeH (by have := (Kd0 k16_5).2; omega)) (by omega)
  clear n16 k16_0 k16_5
  refine J_putRF fl_RX7_36 (by first | exact Or.inl ⟨_, rfl⟩ | exact Or.inr ⟨_, rfl⟩) (Or.inl rfl) rfl fs_RX7_36 k17_0 dX7_init_68 ?_
  refine J_gz (fun h18 z18 => ?_)
  have n18 : hn h18 = (n + 55) := by rw [z18]; exact n17
  have k18_0 : Kd G0 h18 o (.inl 7) := by rw [z18]; exact k17_0
  have k18_5 : Kd G0 h18 (n + 53) (.inl 4) := by rw [z18]; exact k17_5
  clear n17 k17_0 k17_5
  refine J_aload_n rfl dX7_init_71 ?_
  refine J_bw (b' := 18782 + (10 + 1)) (Nat.le_of_ble_eq_true rfl) ?_
  refine J_newe (b := 18782) (ci := 3) (q0 := (RX3, TX3, 10)) n18 rfl cl_RX7_40 ci_RX3 cn_RX3 (fun k hk => dfl3 k hk) dX7_init_72 ?_
  refine J_gz (fun h19 z19 => ?_)
  have n19 : hn h19 = (n + 56) := by rw [z19]; rfl
  have k19_0 : Kd G0 h19 o (.inl 7) := by rw [z19]; exact Kd_nwn k18_0 n18
  have k19_6 : Kd G0 h19 (n + 55) (.inl 3) := by rw [z19]; exact Kd_new0
  clear n18 k18_0
  refine J_dup rfl dX7_init_75 ?_
  refine J_bw (b' := 2145 + 16637) (Nat.le_of_ble_eq_true rfl) ?_
  refine J_callI (b1 := 2145) (b2 := 16637) (vs := []) (rest := [vR (some (n + 55)), vR (some o)]) (Or.inr rfl) ml_RX7_42 rfl rfl (Nat.le_of_ble_eq_true rfl) (Nat.le_of_ble_eq_true rfl) rfl dX7_init_76 (c_readerH k19_6 n19 ?_)
  show J G0 _ _ _ _ _ _ [vR (some (n + 55)), vR (some o)] _
  refine J_gz (fun h20 z20 => ?_)
  have n20 : hn h20 = (n + 62) := by rw [z20]; rfl
  have k20_0 : Kd G0 h20 o (.inl 7) := by exact Kd_of k19_0 (by rw [z20]; exact kd_readerH (by have := (Kd0 k19_0).2; omega)) (by omega)
  have k20_6 : Kd G0 h20 (n + 55) (.inl 3) := by exact Kd_of k19_6 (by rw [z20]; exact kd_readerH (by have := (Kd0 k19_6).2; omega)) (by omega)
  clear n19 k19_0 k19_6
  refine J_putRF fl_RX7_43 (by first | exact Or.inl ⟨_, rfl⟩ | exact Or.inr ⟨_, rfl⟩) (Or.inl rfl) rfl fs_RX7_43 k20_0 dX7_init_79 ?_
  refine J_gz (fun h21 z21 => ?_)
  have n21 : hn h21 = (n + 62) := by rw [z21]; exact n20
  have k21_0 : Kd G0 h21 o (.inl 7) := by rw [z21]; exact k20_0
  have k21_6 : Kd G0 h21 (n + 55) (.inl 3) := by rw [z21]; exact k20_6
  clear n20 k20_0 k20_6
  refine J_aload_n rfl dX7_init_82 ?_
  refine J_bw (b' := 16634 + (2 + 1)) (Nat.le_of_ble_eq_true rfl) ?_
  refine J_newe (b := 16634) (ci := 1) (q0 := (RX1, TX1, 2)) n21 rfl cl_RX7_47 ci_RX1 cn_RX1 (fun k hk => dfl1 k hk) dX7_init_83 ?_
  refine J_gz (fun h22 z22 => ?_)
  have n22 : hn h22 = (n + 63) := by rw [z22]; rfl
  have k22_0 : Kd G0 h22 o (.inl 7) := by rw [z22]; exact Kd_nwn k21_0 n21
  have k22_7 : Kd G0 h22 (n + 62) (.inl 1) := by rw [z22]; exact Kd_new0
  clear n21 k21_0
  refine J_dup rfl dX7_init_86 ?_
  refine J_bw (b' := 140 + 16494) (Nat.le_of_ble_eq_true rfl) ?_
  refine J_callI (b1 := 140) (b2 := 16494) (vs := []) (rest := [vR (some (n + 62)), vR (some o)]) (Or.inr rfl) ml_RX7_49 rfl rfl (Nat.le_of_ble_eq_true rfl) (Nat.le_of_ble_eq_true rfl) rfl dX7_init_87 (c_judgeH k22_7 n22 ?_)
  show J G0 _ _ _ _ _ _ [vR (some (n + 62)), vR (some o)] _
  refine J_gz (fun h23 z23 => ?_)
  have n23 : hn h23 = (n + 65) := by rw [z23]; rfl
  have k23_0 : Kd G0 h23 o (.inl 7) := by exact Kd_of k22_0 (by rw [z23]; exact kd_judgeH (by have := (Kd0 k22_0).2; omega)) (by omega)
  have k23_7 : Kd G0 h23 (n + 62) (.inl 1) := by exact Kd_of k22_7 (by rw [z23]; exact kd_judgeH (by have := (Kd0 k22_7).2; omega)) (by omega)
  clear n22 k22_0 k22_7
  refine J_putRF fl_RX7_50 (by first | exact Or.inl ⟨_, rfl⟩ | exact Or.inr ⟨_, rfl⟩) (Or.inl rfl) rfl fs_RX7_50 k23_0 dX7_init_90 ?_
  refine J_gz (fun h24 z24 => ?_)
  have n24 : hn h24 = (n + 65) := by rw [z24]; exact n23
  have k24_0 : Kd G0 h24 o (.inl 7) := by rw [z24]; exact k23_0
  have k24_7 : Kd G0 h24 (n + 62) (.inl 1) := by rw [z24]; exact k23_7
  clear n23 k23_0 k23_7
  refine J_aload_n rfl dX7_init_93 ?_
  refine J_bw (b' := 16491 + (2 + 1)) (Nat.le_of_ble_eq_true rfl) ?_
  refine J_newe (b := 16491) (ci := 6) (q0 := (RX6, TX6, 2)) n24 rfl cl_RX7_54 ci_RX6 cn_RX6 (fun k hk => dfl6 k hk) dX7_init_94 ?_
  refine J_gz (fun h25 z25 => ?_)
  have n25 : hn h25 = (n + 66) := by rw [z25]; rfl
  have k25_0 : Kd G0 h25 o (.inl 7) := by rw [z25]; exact Kd_nwn k24_0 n24
  have k25_8 : Kd G0 h25 (n + 65) (.inl 6) := by rw [z25]; exact Kd_new0
  clear n24 k24_0
  refine J_dup rfl dX7_init_97 ?_
  refine J_bw (b' := 13057 + 3434) (Nat.le_of_ble_eq_true rfl) ?_
  refine J_callI (b1 := 13057) (b2 := 3434) (vs := []) (rest := [vR (some (n + 65)), vR (some o)]) (Or.inr rfl) ml_RX7_56 rfl rfl (Nat.le_of_ble_eq_true rfl) (Nat.le_of_ble_eq_true rfl) rfl dX7_init_98 (c_trailH k25_8 n25 ?_)
  show J G0 _ _ _ _ _ _ [vR (some (n + 65)), vR (some o)] _
  refine J_gz (fun h26 z26 => ?_)
  have n26 : hn h26 = (n + 67) := by rw [z26]; rfl
  have k26_0 : Kd G0 h26 o (.inl 7) := by exact Kd_of k25_0 (by rw [z26]; exact kd_trailH (by have := (Kd0 k25_0).2; omega)) (by omega)
  have k26_8 : Kd G0 h26 (n + 65) (.inl 6) := by exact Kd_of k25_8 (by rw [z26]; exact kd_trailH (by have := (Kd0 k25_8).2; omega)) (by omega)
  clear n25 k25_0 k25_8
  refine J_putRF fl_RX7_57 (by first | exact Or.inl ⟨_, rfl⟩ | exact Or.inr ⟨_, rfl⟩) (Or.inl rfl) rfl fs_RX7_57 k26_0 dX7_init_101 ?_
  refine J_gz (fun h27 z27 => ?_)
  have n27 : hn h27 = (n + 67) := by rw [z27]; exact n26
  have k27_0 : Kd G0 h27 o (.inl 7) := by rw [z27]; exact k26_0
  have k27_8 : Kd G0 h27 (n + 65) (.inl 6) := by rw [z27]; exact k26_8
  clear n26 k26_0 k26_8
  refine J_aload_n rfl dX7_init_104 ?_
  refine J_bw (b' := 3427 + (6 + 1)) (Nat.le_of_ble_eq_true rfl) ?_
  refine J_newe (b := 3427) (ci := 2) (q0 := (RX2, TX2, 6)) n27 rfl cl_RX7_61 ci_RX2 cn_RX2 (fun k hk => dfl2 k hk) dX7_init_105 ?_
  refine J_gz (fun h28 z28 => ?_)
  have n28 : hn h28 = (n + 68) := by rw [z28]; rfl
  have k28_0 : Kd G0 h28 o (.inl 7) := by rw [z28]; exact Kd_nwn k27_0 n27
  have k28_9 : Kd G0 h28 (n + 67) (.inl 2) := by rw [z28]; exact Kd_new0
  clear n27 k27_0
  refine J_dup rfl dX7_init_108 ?_
  refine J_bw (b' := 3421 + 6) (Nat.le_of_ble_eq_true rfl) ?_
  refine J_callI (b1 := 3421) (b2 := 6) (vs := []) (rest := [vR (some (n + 67)), vR (some o)]) (Or.inr rfl) ml_RX7_63 rfl rfl (Nat.le_of_ble_eq_true rfl) (Nat.le_of_ble_eq_true rfl) rfl dX7_init_109 (c_paperH k28_9 n28 ?_)
  show J G0 _ _ _ _ _ _ [vR (some (n + 67)), vR (some o)] _
  refine J_gz (fun h29 z29 => ?_)
  have n29 : hn h29 = (n + 74) := by rw [z29]; rfl
  have k29_0 : Kd G0 h29 o (.inl 7) := by exact Kd_of k28_0 (by rw [z29]; exact kd_paperH (by have := (Kd0 k28_0).2; omega)) (by omega)
  have k29_9 : Kd G0 h29 (n + 67) (.inl 2) := by exact Kd_of k28_9 (by rw [z29]; exact kd_paperH (by have := (Kd0 k28_9).2; omega)) (by omega)
  clear n28 k28_0 k28_9
  refine J_putRF fl_RX7_64 (by first | exact Or.inl ⟨_, rfl⟩ | exact Or.inr ⟨_, rfl⟩) (Or.inl rfl) rfl fs_RX7_64 k29_0 dX7_init_112 ?_
  refine J_gz (fun h30 z30 => ?_)
  have n30 : hn h30 = (n + 74) := by rw [z30]; exact n29
  have k30_0 : Kd G0 h30 o (.inl 7) := by rw [z30]; exact k29_0
  have k30_9 : Kd G0 h30 (n + 67) (.inl 2) := by rw [z30]; exact k29_9
  clear n29 k29_0 k29_9
  refine J_aload_n rfl dX7_init_115 ?_
  refine J_iconst (by decide) dX7_init_116 ?_
  refine J_putI fl_RX7_68 rfl k30_0 dX7_init_117 ?_
  refine J_gz (fun h31 z31 => ?_)
  have n31 : hn h31 = (n + 74) := by rw [z31]; exact n30
  have k31_0 : Kd G0 h31 o (.inl 7) := by rw [z31]; exact k30_0
  clear n30 k30_0
  refine J_aload_n rfl dX7_init_120 ?_
  refine J_iconst (by decide) dX7_init_121 ?_
  refine J_putI fl_RX7_72 rfl k31_0 dX7_init_122 ?_
  refine J_gz (fun h32 z32 => ?_)
  have n32 : hn h32 = (n + 74) := by rw [z32]; exact n31
  have k32_0 : Kd G0 h32 o (.inl 7) := by rw [z32]; exact k31_0
  clear n31 k31_0
  refine J_aload_n rfl dX7_init_125 ?_
  refine J_iconst (by decide) dX7_init_126 ?_
  refine J_putI fl_RX7_75 rfl k32_0 dX7_init_127 ?_
  refine J_gz (fun h33 z33 => ?_)
  have n33 : hn h33 = (n + 74) := by rw [z33]; exact n32
  have k33_0 : Kd G0 h33 o (.inl 7) := by rw [z33]; exact k32_0
  clear n32 k32_0
  refine J_aload_n rfl dX7_init_130 ?_
  refine J_iconst (by decide) dX7_init_131 ?_
  refine J_putI fl_RX7_78 rfl k33_0 dX7_init_132 ?_
  refine J_gz (fun h34 z34 => ?_)
  have n34 : hn h34 = (n + 74) := by rw [z34]; exact n33
  have k34_0 : Kd G0 h34 o (.inl 7) := by rw [z34]; exact k33_0
  clear n33 k33_0
  refine J_aload_n rfl dX7_init_135 ?_
  refine J_iconst (by decide) dX7_init_136 ?_
  refine J_putI fl_RX7_81 rfl k34_0 dX7_init_137 ?_
  refine J_gz (fun h35 z35 => ?_)
  have n35 : hn h35 = (n + 74) := by rw [z35]; exact n34
  have k35_0 : Kd G0 h35 o (.inl 7) := by rw [z35]; exact k34_0
  clear n34 k34_0
  refine J_aload_n rfl dX7_init_140 ?_
  refine J_iconst (by decide) dX7_init_141 ?_
  refine J_bw (b' := 0 + (5 + 1)) (Nat.le_of_ble_eq_true rfl) ?_
  refine J_newarray0e (b := 0) (N := 5) n35 (Nat.le_of_ble_eq_true rfl) rfl ac_i dX7_init_142 ?_
  refine J_gz (fun h36 z36 => ?_)
  have n36 : hn h36 = (n + 75) := by rw [z36]; rfl
  have k36_0 : Kd G0 h36 o (.inl 7) := by rw [z36]; exact Kd_nwn k35_0 n35
  clear n35 k35_0
  refine J_putRF fl_RX7_84 (by first | exact Or.inl ⟨_, rfl⟩ | exact Or.inr ⟨_, rfl⟩) (Or.inl rfl) rfl fs_RX7_84 k36_0 dX7_init_144 ?_
  refine J_gz (fun h37 z37 => ?_)
  have n37 : hn h37 = (n + 75) := by rw [z37]; exact n36
  have k37_0 : Kd G0 h37 o (.inl 7) := by rw [z37]; exact k36_0
  clear n36 k36_0
  subst z37 z36 z35 z34 z33 z32 z31 z30 z29 z28 z27 z26 z25 z24 z23 z22 z21 z20 z19 z18 z17 z16 z15 z14 z13 z12 z11 z10 z9 z8 z7 z6 z5 z4 z3 z2 z1
  exact J_return rfl dX7_init_147 K
