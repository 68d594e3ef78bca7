def tapeH (h : AH) (o n : Nat) : AH := si (sr (nwn h n (.inr (0, 400))) o ((0 : Nat) : Int) (some n)) o ((1 : Nat) : Int) 0
theorem hn_tapeH {h : AH} {o n : Nat} : hn (tapeH h o n) = n + 1 := rfl
theorem kd_tapeH {h : AH} {o n o' : Nat} (z : o' < n) : kd (tapeH h o n) o' = kd h o' := by
  simp only [tapeH, kd_si', kd_sr', kd_nwn, kd_fil]
  repeat rw [if_neg (by omega)]
theorem rf_tapeH {h : AH} {o n o' : Nat} {k : Int} (z : o' < n) (e : o' ≠ o) : rf (tapeH h o n) o' k = rf h o' k := by
  simp only [tapeH, rf_si', rf_sr, rf_nwn, rf_fil]
  repeat rw [if_neg (by omega)]
set_option maxRecDepth 20000 in
set_option maxHeartbeats 4000000 in
theorem c_tapeH {d : Nat} {Q : Option AV → AH → Prop} {h : AH} {o n : Nat} (k0 : Kd G0 h o (.inl 4)) (n0 : hn h = n) (K : Q none (tapeH h o n)) : WM G0 (d + 1) 401 mX4_init [vR (some o)] h Q := by
  refine WM_introE (loc' := [some (vR (some o))]) rfl (by decide) (Nat.le_of_ble_eq_true rfl) ?_
  refine J_aload_n rfl dX4_init_0 ?_
  refine J_objinit ml_RX4_3 (Nat.le_of_ble_eq_true rfl) dX4_init_1 ?_
  refine J_aload_n rfl dX4_init_4 ?_
  refine J_sipush (by decide) (by decide) dX4_init_5 ?_
  refine J_bw (b' := 0 + (400 + 1)) (Nat.le_of_ble_eq_true rfl) ?_
  refine J_newarray0e (b := 0) (N := 400) n0 (Nat.le_of_ble_eq_true rfl) rfl ac_i dX4_init_8 ?_
  refine J_gz (fun h1 z1 => ?_)
  have n1 : hn h1 = (n + 1) := by rw [z1]; rfl
  have k1_0 : Kd G0 h1 o (.inl 4) := by rw [z1]; exact Kd_nwn k0 n0
  refine J_putRF fl_RX4_9 (by first | exact Or.inl ⟨_, rfl⟩ | exact Or.inr ⟨_, rfl⟩) (Or.inl rfl) rfl fs_RX4_9 k1_0 dX4_init_10 ?_
  refine J_gz (fun h2 z2 => ?_)
  have n2 : hn h2 = (n + 1) := by rw [z2]; exact n1
  have k2_0 : Kd G0 h2 o (.inl 4) := by rw [z2]; exact k1_0
  clear n1 k1_0
  refine J_aload_n rfl dX4_init_13 ?_
  refine J_iconst (by decide) dX4_init_14 ?_
  refine J_putI fl_RX4_15 rfl k2_0 dX4_init_15 ?_
  refine J_gz (fun h3 z3 => ?_)
  have n3 : hn h3 = (n + 1) := by rw [z3]; exact n2
  have k3_0 : Kd G0 h3 o (.inl 4) := by rw [z3]; exact k2_0
  clear n2 k2_0
  subst z3 z2 z1
  exact J_return rfl dX4_init_18 K
def textH (h : AH) (o a s : Nat) : AH := sr (sr (si (si h o ((0 : Nat) : Int) 0) o ((2 : Nat) : Int) 0) o ((1 : Nat) : Int) (some a)) o ((3 : Nat) : Int) (some s)
theorem hn_textH {h : AH} {o a s : Nat} : hn (textH h o a s) = hn h := rfl
theorem kd_textH {h : AH} {o a s o' : Nat} : kd (textH h o a s) o' = kd h o' := rfl
set_option maxRecDepth 20000 in
set_option maxHeartbeats 4000000 in
theorem c_textH {d b : Nat} {Q : Option AV → AH → Prop} {h : AH} {o a s : Nat} (k0 : Kd G0 h o (.inl 5)) (K : Q none (textH h o a s)) : WM G0 (d + 1) b mX5_init [vR (some o), vR (some a), vR (some s)] h Q := by
  refine WM_introE (loc' := [some (vR (some o)), some (vR (some a)), some (vR (some s))]) rfl (by decide) (Nat.le_of_ble_eq_true rfl) ?_
  refine J_aload_n rfl dX5_init_0 ?_
  refine J_objinit ml_RX5_3 (Nat.le_of_ble_eq_true rfl) dX5_init_1 ?_
  refine J_aload_n rfl dX5_init_4 ?_
  refine J_iconst (by decide) dX5_init_5 ?_
  refine J_putI fl_RX5_9 rfl k0 dX5_init_6 ?_
  refine J_gz (fun h1 z1 => ?_)
  have k1_0 : Kd G0 h1 o (.inl 5) := by rw [z1]; exact k0
  refine J_aload_n rfl dX5_init_9 ?_
  refine J_iconst (by decide) dX5_init_10 ?_
  refine J_putI fl_RX5_15 rfl k1_0 dX5_init_11 ?_
  refine J_gz (fun h2 z2 => ?_)
  have k2_0 : Kd G0 h2 o (.inl 5) := by rw [z2]; exact k1_0
  clear k1_0
  refine J_aload_n rfl dX5_init_14 ?_
  refine J_aload_n rfl dX5_init_15 ?_
  refine J_putRF fl_RX5_18 (by first | exact Or.inl ⟨_, rfl⟩ | exact Or.inr ⟨_, rfl⟩) (Or.inl rfl) rfl fs_RX5_18 k2_0 dX5_init_16 ?_
  refine J_gz (fun h3 z3 => ?_)
  have k3_0 : Kd G0 h3 o (.inl 5) := by rw [z3]; exact k2_0
  clear k2_0
  refine J_aload_n rfl dX5_init_19 ?_
  refine J_aload_n rfl dX5_init_20 ?_
  refine J_putRF fl_RX5_22 (by first | exact Or.inl ⟨_, rfl⟩ | exact Or.inr ⟨_, rfl⟩) (Or.inl rfl) rfl fs_RX5_22 k3_0 dX5_init_21 ?_
  refine J_gz (fun h4 z4 => ?_)
  have k4_0 : Kd G0 h4 o (.inl 5) := by rw [z4]; exact k3_0
  clear k3_0
  subst z4 z3 z2 z1
  exact J_return rfl dX5_init_24 K
def readerH0 (h : AH) (o n : Nat) : AH := si (si (si (si (si (si (sr (nwn (sr (nwn (sr (nwn h n (.inr (0, 401))) o ((0 : Nat) : Int) (some n)) (n + 1) (.inr (0, 401))) o ((1 : Nat) : Int) (some (n + 1))) (n + 2) (.inr (0, 401))) o ((2 : Nat) : Int) (some (n + 2))) o ((3 : Nat) : Int) 0) o ((4 : Nat) : Int) 0) o ((5 : Nat) : Int) (-1)) o ((6 : Nat) : Int) 0) o ((7 : Nat) : Int) 0) o ((8 : Nat) : Int) (-1)
def readerH (h : AH) (o n : Nat) : AH := sr (textH (nwn (nwn (nwn (readerH0 h o n) (n + 3) (.inl 5)) (n + 4) (.inr (0, 60))) (n + 5) (.inr (0, 872))) (n + 3) (n + 4) (n + 5)) o ((9 : Nat) : Int) (some (n + 3))
theorem hn_readerH {h : AH} {o n : Nat} : hn (readerH h o n) = n + 6 := rfl
theorem kd_readerH {h : AH} {o n o' : Nat} (z : o' < n) : kd (readerH h o n) o' = kd h o' := by
  simp only [readerH0, readerH, kd_si', kd_sr', kd_nwn, kd_fil, kd_textH]
  repeat rw [if_neg (by omega)]
theorem rf_readerH {h : AH} {o n o' : Nat} {k : Int} (z : o' < n) (e : o' ≠ o) : rf (readerH h o n) o' k = rf h o' k := by
  simp only [readerH0, readerH, textH, rf_si', rf_sr, rf_nwn, rf_fil]
  repeat rw [if_neg (by omega)]
set_option maxRecDepth 20000 in
set_option maxHeartbeats 4000000 in
theorem c_readerH {d : Nat} {Q : Option AV → AH → Prop} {h : AH} {o n : Nat} (k0 : Kd G0 h o (.inl 3)) (n0 : hn h = n) (K : Q none (readerH h o n)) : WM G0 (d + 2) 2145 mX3_init [vR (some o)] h Q := by
  refine WM_introE (loc' := [some (vR (some o))]) rfl (by decide) (Nat.le_of_ble_eq_true rfl) ?_
  refine J_aload_n rfl dX3_init_0 ?_
  refine J_objinit ml_RX3_3 (Nat.le_of_ble_eq_true rfl) dX3_init_1 ?_
  refine J_aload_n rfl dX3_init_4 ?_
  refine J_sipush (by decide) (by decide) dX3_init_5 ?_
  refine J_bw (b' := 1743 + (401 + 1)) (Nat.le_of_ble_eq_true rfl) ?_
  refine J_newarray0e (b := 1743) (N := 401) n0 (Nat.le_of_ble_eq_true rfl) rfl ac_i dX3_init_8 ?_
  refine J_gz (fun h1 z1 => ?_)
  have n1 : hn h1 = (n + 1) := by rw [z1]; rfl
  have k1_0 : Kd G0 h1 o (.inl 3) := by rw [z1]; exact Kd_nwn k0 n0
  refine J_putRF fl_RX3_9 (by first | exact Or.inl ⟨_, rfl⟩ | exact Or.inr ⟨_, rfl⟩) (Or.inl rfl) rfl fs_RX3_9 k1_0 dX3_init_10 ?_
  refine J_gz (fun h2 z2 => ?_)
  have n2 : hn h2 = (n + 1) := by rw [z2]; exact n1
  have k2_0 : Kd G0 h2 o (.inl 3) := by rw [z2]; exact k1_0
  clear n1 k1_0
  refine J_aload_n rfl dX3_init_13 ?_
  refine J_sipush (by decide) (by decide) dX3_init_14 ?_
  refine J_bw (b' := 1341 + (401 + 1)) (Nat.le_of_ble_eq_true rfl) ?_
  refine J_newarray0e (b := 1341) (N := 401) n2 (Nat.le_of_ble_eq_true rfl) rfl ac_i dX3_init_17 ?_
  refine J_gz (fun h3 z3 => ?_)
  have n3 : hn h3 = (n + 2) := by rw [z3]; rfl
  have k3_0 : Kd G0 h3 o (.inl 3) := by rw [z3]; exact Kd_nwn k2_0 n2
  clear n2 k2_0
  refine J_putRF fl_RX3_15 (by first | exact Or.inl ⟨_, rfl⟩ | exact Or.inr ⟨_, rfl⟩) (Or.inl rfl) rfl fs_RX3_15 k3_0 dX3_init_19 ?_
  refine J_gz (fun h4 z4 => ?_)
  have n4 : hn h4 = (n + 2) := by rw [z4]; exact n3
  have k4_0 : Kd G0 h4 o (.inl 3) := by rw [z4]; exact k3_0
  clear n3 k3_0
  refine J_aload_n rfl dX3_init_22 ?_
  refine J_sipush (by decide) (by decide) dX3_init_23 ?_
  refine J_bw (b' := 939 + (401 + 1)) (Nat.le_of_ble_eq_true rfl) ?_
  refine J_newarray0e (b := 939) (N := 401) n4 (Nat.le_of_ble_eq_true rfl) rfl ac_i dX3_init_26 ?_
  refine J_gz (fun h5 z5 => ?_)
  have n5 : hn h5 = (n + 3) := by rw [z5]; rfl
  have k5_0 : Kd G0 h5 o (.inl 3) := by rw [z5]; exact Kd_nwn k4_0 n4
  clear n4 k4_0
  refine J_putRF fl_RX3_18 (by first | exact Or.inl ⟨_, rfl⟩ | exact Or.inr ⟨_, rfl⟩) (Or.inl rfl) rfl fs_RX3_18 k5_0 dX3_init_28 ?_
  refine J_gz (fun h6 z6 => ?_)
  have n6 : hn h6 = (n + 3) := by rw [z6]; exact n5
  have k6_0 : Kd G0 h6 o (.inl 3) := by rw [z6]; exact k5_0
  clear n5 k5_0
  refine J_aload_n rfl dX3_init_31 ?_
  refine J_iconst (by decide) dX3_init_32 ?_
  refine J_putI fl_RX3_21 rfl k6_0 dX3_init_33 ?_
  refine J_gz (fun h7 z7 => ?_)
  have n7 : hn h7 = (n + 3) := by rw [z7]; exact n6
  have k7_0 : Kd G0 h7 o (.inl 3) := by rw [z7]; exact k6_0
  clear n6 k6_0
  refine J_aload_n rfl dX3_init_36 ?_
  refine J_iconst (by decide) dX3_init_37 ?_
  refine J_putI fl_RX3_25 rfl k7_0 dX3_init_38 ?_
  refine J_gz (fun h8 z8 => ?_)
  have n8 : hn h8 = (n + 3) := by rw [z8]; exact n7
  have k8_0 : Kd G0 h8 o (.inl 3) := by rw [z8]; exact k7_0
  clear n7 k7_0
  refine J_aload_n rfl dX3_init_41 ?_
  refine J_iconst (by decide) dX3_init_42 ?_
  refine J_putI fl_RX3_28 rfl k8_0 dX3_init_43 ?_
  refine J_gz (fun h9 z9 => ?_)
  have n9 : hn h9 = (n + 3) := by rw [z9]; exact n8
  have k9_0 : Kd G0 h9 o (.inl 3) := by rw [z9]; exact k8_0
  clear n8 k8_0
  refine J_aload_n rfl dX3_init_46 ?_
  refine J_iconst (by decide) dX3_init_47 ?_
  refine J_putI fl_RX3_31 rfl k9_0 dX3_init_48 ?_
  refine J_gz (fun h10 z10 => ?_)
  have n10 : hn h10 = (n + 3) := by rw [z10]; exact n9
  have k10_0 : Kd G0 h10 o (.inl 3) := by rw [z10]; exact k9_0
  clear n9 k9_0
  refine J_aload_n rfl dX3_init_51 ?_
  refine J_iconst (by decide) dX3_init_52 ?_
  refine J_putZ fl_RX3_34 rfl (by decide) k10_0 dX3_init_53 ?_
  refine J_gz (fun h11 z11 => ?_)
  have n11 : hn h11 = (n + 3) := by rw [z11]; exact n10
  have k11_0 : Kd G0 h11 o (.inl 3) := by rw [z11]; exact k10_0
  clear n10 k10_0
  refine J_aload_n rfl dX3_init_56 ?_
  refine J_iconst (by decide) dX3_init_57 ?_
  refine J_putI fl_RX3_38 rfl k11_0 dX3_init_58 ?_
  refine J_gz (fun h12 z12 => ?_)
  have n12 : hn h12 = (n + 3) := by rw [z12]; exact n11
  have k12_0 : Kd G0 h12 o (.inl 3) := by rw [z12]; exact k11_0
  clear n11 k11_0
  refine J_aload_n rfl dX3_init_61 ?_
  refine J_bw (b' := 934 + (4 + 1)) (Nat.le_of_ble_eq_true rfl) ?_
  refine J_newe (b := 934) (ci := 5) (q0 := (RX5, TX5, 4)) n12 rfl cl_RX3_41 ci_RX5 cn_RX5 (fun k hk => dfl5 k hk) dX3_init_62 ?_
  refine J_gz (fun h13 z13 => ?_)
  have n13 : hn h13 = (n + 4) := by rw [z13]; rfl
  have k13_0 : Kd G0 h13 o (.inl 3) := by rw [z13]; exact Kd_nwn k12_0 n12
  have k13_1 : Kd G0 h13 (n + 3) (.inl 5) := by rw [z13]; exact Kd_new0
  clear n12 k12_0
  refine J_dup rfl dX3_init_65 ?_
  refine J_bipush (by decide) (by decide) dX3_init_66 ?_
  refine J_bw (b' := 873 + (60 + 1)) (Nat.le_of_ble_eq_true rfl) ?_
  refine J_newarray0e (b := 873) (N := 60) n13 (Nat.le_of_ble_eq_true rfl) rfl ac_i dX3_init_68 ?_
  refine J_gz (fun h14 z14 => ?_)
  have n14 : hn h14 = (n + 5) := by rw [z14]; rfl
  have k14_0 : Kd G0 h14 o (.inl 3) := by rw [z14]; exact Kd_nwn k13_0 n13
  have k14_1 : Kd G0 h14 (n + 3) (.inl 5) := by rw [z14]; exact Kd_nwn k13_1 n13
  clear n13 k13_0 k13_1
  refine J_sipush (by decide) (by decide) dX3_init_70 ?_
  refine J_bw (b' := 0 + (872 + 1)) (Nat.le_of_ble_eq_true rfl) ?_
  refine J_newarray0e (b := 0) (N := 872) n14 (Nat.le_of_ble_eq_true rfl) rfl ac_i dX3_init_73 ?_
  refine J_gz (fun h15 z15 => ?_)
  have n15 : hn h15 = (n + 6) := by rw [z15]; rfl
  have k15_0 : Kd G0 h15 o (.inl 3) := by rw [z15]; exact Kd_nwn k14_0 n14
  have k15_1 : Kd G0 h15 (n + 3) (.inl 5) := by rw [z15]; exact Kd_nwn k14_1 n14
  clear n14 k14_0 k14_1
  refine J_bw (b' := 0 + 0) (Nat.le_of_ble_eq_true rfl) ?_
  refine J_callI (b1 := 0) (b2 := 0) (vs := [vR (some (n + 4)), vR (some (n + 5))]) (rest := [vR (some (n + 3)), vR (some o)]) (Or.inr rfl) ml_RX3_43 rfl rfl (Nat.le_of_ble_eq_true rfl) (Nat.le_of_ble_eq_true rfl) rfl dX3_init_75 (c_textH k15_1 ?_)
  show J G0 _ _ _ _ _ _ [vR (some (n + 3)), vR (some o)] _
  refine J_gz (fun h16 z16 => ?_)
  have n16 : hn h16 = (n + 6) := by rw [z16]; exact n15
  have k16_0 : Kd G0 h16 o (.inl 3) := by rw [z16]; exact k15_0
  have k16_1 : Kd G0 h16 (n + 3) (.inl 5) := by rw [z16]; exact k15_1
  clear n15 k15_0 k15_1
  refine J_putRF fl_RX3_46 (by first | exact Or.inl ⟨_, rfl⟩ | exact Or.inr ⟨_, rfl⟩) (Or.inl rfl) rfl fs_RX3_46 k16_0 dX3_init_78 ?_
  refine J_gz (fun h17 z17 => ?_)
  have n17 : hn h17 = (n + 6) := by rw [z17]; exact n16
  have k17_0 : Kd G0 h17 o (.inl 3) := by rw [z17]; exact k16_0
  have k17_1 : Kd G0 h17 (n + 3) (.inl 5) := by rw [z17]; exact k16_1
  clear n16 k16_0 k16_1
  subst z17 z16 z15 z14 z13 z12 z11 z10 z9 z8 z7 z6 z5 z4 z3 z2 z1
  exact J_return rfl dX3_init_81 K
def judgeH (h : AH) (o n : Nat) : AH := sr (nwn (sr (nwn h n (.inr (0, 38))) o ((0 : Nat) : Int) (some n)) (n + 1) (.inr (0, 100))) o ((1 : Nat) : Int) (some (n + 1))
theorem hn_judgeH {h : AH} {o n : Nat} : hn (judgeH h o n) = n + 2 := rfl
theorem kd_judgeH {h : AH} {o n o' : Nat} (z : o' < n) : kd (judgeH h o n) o' = kd h o' := by
  simp only [judgeH, kd_si', kd_sr', kd_nwn, kd_fil]
  repeat rw [if_neg (by omega)]
theorem rf_judgeH {h : AH} {o n o' : Nat} {k : Int} (z : o' < n) (e : o' ≠ o) : rf (judgeH h o n) o' k = rf h o' k := by
  simp only [judgeH, rf_si', rf_sr, rf_nwn, rf_fil]
  repeat rw [if_neg (by omega)]
set_option maxRecDepth 20000 in
set_option maxHeartbeats 4000000 in
theorem c_judgeH {d : Nat} {Q : Option AV → AH → Prop} {h : AH} {o n : Nat} (k0 : Kd G0 h o (.inl 1)) (n0 : hn h = n) (K : Q none (judgeH h o n)) : WM G0 (d + 1) 140 mX1_init [vR (some o)] h Q := by
  refine WM_introE (loc' := [some (vR (some o))]) rfl (by decide) (Nat.le_of_ble_eq_true rfl) ?_
  refine J_aload_n rfl dX1_init_0 ?_
  refine J_objinit ml_RX1_3 (Nat.le_of_ble_eq_true rfl) dX1_init_1 ?_
  refine J_aload_n rfl dX1_init_4 ?_
  refine J_bipush (by decide) (by decide) dX1_init_5 ?_
  refine J_bw (b' := 101 + (38 + 1)) (Nat.le_of_ble_eq_true rfl) ?_
  refine J_newarray0e (b := 101) (N := 38) n0 (Nat.le_of_ble_eq_true rfl) rfl ac_i dX1_init_7 ?_
  refine J_gz (fun h1 z1 => ?_)
  have n1 : hn h1 = (n + 1) := by rw [z1]; rfl
  have k1_0 : Kd G0 h1 o (.inl 1) := by rw [z1]; exact Kd_nwn k0 n0
  refine J_putRF fl_RX1_9 (by first | exact Or.inl ⟨_, rfl⟩ | exact Or.inr ⟨_, rfl⟩) (Or.inl rfl) rfl fs_RX1_9 k1_0 dX1_init_9 ?_
  refine J_gz (fun h2 z2 => ?_)
  have n2 : hn h2 = (n + 1) := by rw [z2]; exact n1
  have k2_0 : Kd G0 h2 o (.inl 1) := by rw [z2]; exact k1_0
  clear n1 k1_0
  refine J_aload_n rfl dX1_init_12 ?_
  refine J_bipush (by decide) (by decide) dX1_init_13 ?_
  refine J_bw (b' := 0 + (100 + 1)) (Nat.le_of_ble_eq_true rfl) ?_
  refine J_newarray0e (b := 0) (N := 100) n2 (Nat.le_of_ble_eq_true rfl) rfl ac_i dX1_init_15 ?_
  refine J_gz (fun h3 z3 => ?_)
  have n3 : hn h3 = (n + 2) := by rw [z3]; rfl
  have k3_0 : Kd G0 h3 o (.inl 1) := by rw [z3]; exact Kd_nwn k2_0 n2
  clear n2 k2_0
  refine J_putRF fl_RX1_15 (by first | exact Or.inl ⟨_, rfl⟩ | exact Or.inr ⟨_, rfl⟩) (Or.inl rfl) rfl fs_RX1_15 k3_0 dX1_init_17 ?_
  refine J_gz (fun h4 z4 => ?_)
  have n4 : hn h4 = (n + 2) := by rw [z4]; exact n3
  have k4_0 : Kd G0 h4 o (.inl 1) := by rw [z4]; exact k3_0
  clear n3 k3_0
  subst z4 z3 z2 z1
  exact J_return rfl dX1_init_20 K
def trailH (h : AH) (o n : Nat) : AH := si (sr (nwn h n (.inr (0, 13056))) o ((0 : Nat) : Int) (some n)) o ((1 : Nat) : Int) 0
theorem hn_trailH {h : AH} {o n : Nat} : hn (trailH h o n) = n + 1 := rfl
theorem kd_trailH {h : AH} {o n o' : Nat} (z : o' < n) : kd (trailH h o n) o' = kd h o' := by
  simp only [trailH, kd_si', kd_sr', kd_nwn, kd_fil]
  repeat rw [if_neg (by omega)]
theorem rf_trailH {h : AH} {o n o' : Nat} {k : Int} (z : o' < n) (e : o' ≠ o) : rf (trailH h o n) o' k = rf h o' k := by
  simp only [trailH, rf_si', rf_sr, rf_nwn, rf_fil]
  repeat rw [if_neg (by omega)]
set_option maxRecDepth 20000 in
set_option maxHeartbeats 4000000 in
theorem c_trailH {d : Nat} {Q : Option AV → AH → Prop} {h : AH} {o n : Nat} (k0 : Kd G0 h o (.inl 6)) (n0 : hn h = n) (K : Q none (trailH h o n)) : WM G0 (d + 1) 13057 mX6_init [vR (some o)] h Q := by
  refine WM_introE (loc' := [some (vR (some o))]) rfl (by decide) (Nat.le_of_ble_eq_true rfl) ?_
  refine J_aload_n rfl dX6_init_0 ?_
  refine J_objinit ml_RX6_3 (Nat.le_of_ble_eq_true rfl) dX6_init_1 ?_
  refine J_aload_n rfl dX6_init_4 ?_
  refine J_sipush (by decide) (by decide) dX6_init_5 ?_
  refine J_bw (b' := 0 + (13056 + 1)) (Nat.le_of_ble_eq_true rfl) ?_
  refine J_newarray0e (b := 0) (N := 13056) n0 (Nat.le_of_ble_eq_true rfl) rfl ac_i dX6_init_8 ?_
  refine J_gz (fun h1 z1 => ?_)
  have n1 : hn h1 = (n + 1) := by rw [z1]; rfl
  have k1_0 : Kd G0 h1 o (.inl 6) := by rw [z1]; exact Kd_nwn k0 n0
  refine J_putRF fl_RX6_11 (by first | exact Or.inl ⟨_, rfl⟩ | exact Or.inr ⟨_, rfl⟩) (Or.inl rfl) rfl fs_RX6_11 k1_0 dX6_init_10 ?_
  refine J_gz (fun h2 z2 => ?_)
  have n2 : hn h2 = (n + 1) := by rw [z2]; exact n1
  have k2_0 : Kd G0 h2 o (.inl 6) := by rw [z2]; exact k1_0
  clear n1 k1_0
  refine J_aload_n rfl dX6_init_13 ?_
  refine J_iconst (by decide) dX6_init_14 ?_
  refine J_putI fl_RX6_15 rfl k2_0 dX6_init_15 ?_
  refine J_gz (fun h3 z3 => ?_)
  have n3 : hn h3 = (n + 1) := by rw [z3]; exact n2
  have k3_0 : Kd G0 h3 o (.inl 6) := by rw [z3]; exact k2_0
  clear n2 k2_0
  subst z3 z2 z1
  exact J_return rfl dX6_init_18 K
def paperH (h : AH) (o n : Nat) : AH := sr (nwn (sr (nwn (sr (nwn (sr (nwn (sr (nwn (sr (nwn h n (.inr (0, 64))) o ((0 : Nat) : Int) (some n)) (n + 1) (.inr (0, 2304))) o ((1 : Nat) : Int) (some (n + 1))) (n + 2) (.inr (0, 1024))) o ((2 : Nat) : Int) (some (n + 2))) (n + 3) (.inr (0, 7))) o ((3 : Nat) : Int) (some (n + 3))) (n + 4) (.inr (0, 8))) o ((4 : Nat) : Int) (some (n + 4))) (n + 5) (.inr (0, 8))) o ((5 : Nat) : Int) (some (n + 5))
theorem hn_paperH {h : AH} {o n : Nat} : hn (paperH h o n) = n + 6 := rfl
theorem kd_paperH {h : AH} {o n o' : Nat} (z : o' < n) : kd (paperH h o n) o' = kd h o' := by
  simp only [paperH, kd_si', kd_sr', kd_nwn, kd_fil]
  repeat rw [if_neg (by omega)]
theorem rf_paperH {h : AH} {o n o' : Nat} {k : Int} (z : o' < n) (e : o' ≠ o) : rf (paperH h o n) o' k = rf h o' k := by
  simp only [paperH, rf_si', rf_sr, rf_nwn, rf_fil]
  repeat rw [if_neg (by omega)]
set_option maxRecDepth 20000 in
set_option maxHeartbeats 4000000 in
theorem c_paperH {d : Nat} {Q : Option AV → AH → Prop} {h : AH} {o n : Nat} (k0 : Kd G0 h o (.inl 2)) (n0 : hn h = n) (K : Q none (paperH h o n)) : WM G0 (d + 1) 3421 mX2_init [vR (some o)] h Q := by
  refine WM_introE (loc' := [some (vR (some o))]) rfl (by decide) (Nat.le_of_ble_eq_true rfl) ?_
  refine J_aload_n rfl dX2_init_0 ?_
  refine J_objinit ml_RX2_3 (Nat.le_of_ble_eq_true rfl) dX2_init_1 ?_
  refine J_aload_n rfl dX2_init_4 ?_
  refine J_bipush (by decide) (by decide) dX2_init_5 ?_
  refine J_bw (b' := 3356 + (64 + 1)) (Nat.le_of_ble_eq_true rfl) ?_
  refine J_newarray0e (b := 3356) (N := 64) n0 (Nat.le_of_ble_eq_true rfl) rfl ac_i dX2_init_7 ?_
  refine J_gz (fun h1 z1 => ?_)
  have n1 : hn h1 = (n + 1) := by rw [z1]; rfl
  have k1_0 : Kd G0 h1 o (.inl 2) := by rw [z1]; exact Kd_nwn k0 n0
  refine J_putRF fl_RX2_9 (by first | exact Or.inl ⟨_, rfl⟩ | exact Or.inr ⟨_, rfl⟩) (Or.inl rfl) rfl fs_RX2_9 k1_0 dX2_init_9 ?_
  refine J_gz (fun h2 z2 => ?_)
  have n2 : hn h2 = (n + 1) := by rw [z2]; exact n1
  have k2_0 : Kd G0 h2 o (.inl 2) := by rw [z2]; exact k1_0
  clear n1 k1_0
  refine J_aload_n rfl dX2_init_12 ?_
  refine J_sipush (by decide) (by decide) dX2_init_13 ?_
  refine J_bw (b' := 1051 + (2304 + 1)) (Nat.le_of_ble_eq_true rfl) ?_
  refine J_newarray0e (b := 1051) (N := 2304) n2 (Nat.le_of_ble_eq_true rfl) rfl ac_i dX2_init_16 ?_
  refine J_gz (fun h3 z3 => ?_)
  have n3 : hn h3 = (n + 2) := by rw [z3]; rfl
  have k3_0 : Kd G0 h3 o (.inl 2) := by rw [z3]; exact Kd_nwn k2_0 n2
  clear n2 k2_0
  refine J_putRF fl_RX2_15 (by first | exact Or.inl ⟨_, rfl⟩ | exact Or.inr ⟨_, rfl⟩) (Or.inl rfl) rfl fs_RX2_15 k3_0 dX2_init_18 ?_
  refine J_gz (fun h4 z4 => ?_)
  have n4 : hn h4 = (n + 2) := by rw [z4]; exact n3
  have k4_0 : Kd G0 h4 o (.inl 2) := by rw [z4]; exact k3_0
  clear n3 k3_0
  refine J_aload_n rfl dX2_init_21 ?_
  refine J_sipush (by decide) (by decide) dX2_init_22 ?_
  refine J_bw (b' := 26 + (1024 + 1)) (Nat.le_of_ble_eq_true rfl) ?_
  refine J_newarray0e (b := 26) (N := 1024) n4 (Nat.le_of_ble_eq_true rfl) rfl ac_i dX2_init_25 ?_
  refine J_gz (fun h5 z5 => ?_)
  have n5 : hn h5 = (n + 3) := by rw [z5]; rfl
  have k5_0 : Kd G0 h5 o (.inl 2) := by rw [z5]; exact Kd_nwn k4_0 n4
  clear n4 k4_0
  refine J_putRF fl_RX2_18 (by first | exact Or.inl ⟨_, rfl⟩ | exact Or.inr ⟨_, rfl⟩) (Or.inl rfl) rfl fs_RX2_18 k5_0 dX2_init_27 ?_
  refine J_gz (fun h6 z6 => ?_)
  have n6 : hn h6 = (n + 3) := by rw [z6]; exact n5
  have k6_0 : Kd G0 h6 o (.inl 2) := by rw [z6]; exact k5_0
  clear n5 k5_0
  refine J_aload_n rfl dX2_init_30 ?_
  refine J_bipush (by decide) (by decide) dX2_init_31 ?_
  refine J_bw (b' := 18 + (7 + 1)) (Nat.le_of_ble_eq_true rfl) ?_
  refine J_newarray0e (b := 18) (N := 7) n6 (Nat.le_of_ble_eq_true rfl) rfl ac_i dX2_init_33 ?_
  refine J_gz (fun h7 z7 => ?_)
  have n7 : hn h7 = (n + 4) := by rw [z7]; rfl
  have k7_0 : Kd G0 h7 o (.inl 2) := by rw [z7]; exact Kd_nwn k6_0 n6
  clear n6 k6_0
  refine J_putRF fl_RX2_21 (by first | exact Or.inl ⟨_, rfl⟩ | exact Or.inr ⟨_, rfl⟩) (Or.inl rfl) rfl fs_RX2_21 k7_0 dX2_init_35 ?_
  refine J_gz (fun h8 z8 => ?_)
  have n8 : hn h8 = (n + 4) := by rw [z8]; exact n7
  have k8_0 : Kd G0 h8 o (.inl 2) := by rw [z8]; exact k7_0
  clear n7 k7_0
  refine J_aload_n rfl dX2_init_38 ?_
  refine J_bipush (by decide) (by decide) dX2_init_39 ?_
  refine J_bw (b' := 9 + (8 + 1)) (Nat.le_of_ble_eq_true rfl) ?_
  refine J_newarray0e (b := 9) (N := 8) n8 (Nat.le_of_ble_eq_true rfl) rfl ac_i dX2_init_41 ?_
  refine J_gz (fun h9 z9 => ?_)
  have n9 : hn h9 = (n + 5) := by rw [z9]; rfl
  have k9_0 : Kd G0 h9 o (.inl 2) := by rw [z9]; exact Kd_nwn k8_0 n8
  clear n8 k8_0
  refine J_putRF fl_RX2_24 (by first | exact Or.inl ⟨_, rfl⟩ | exact Or.inr ⟨_, rfl⟩) (Or.inl rfl) rfl fs_RX2_24 k9_0 dX2_init_43 ?_
  refine J_gz (fun h10 z10 => ?_)
  have n10 : hn h10 = (n + 5) := by rw [z10]; exact n9
  have k10_0 : Kd G0 h10 o (.inl 2) := by rw [z10]; exact k9_0
  clear n9 k9_0
  refine J_aload_n rfl dX2_init_46 ?_
  refine J_bipush (by decide) (by decide) dX2_init_47 ?_
  refine J_bw (b' := 0 + (8 + 1)) (Nat.le_of_ble_eq_true rfl) ?_
  refine J_newarray0e (b := 0) (N := 8) n10 (Nat.le_of_ble_eq_true rfl) rfl ac_i dX2_init_49 ?_
  refine J_gz (fun h11 z11 => ?_)
  have n11 : hn h11 = (n + 6) := by rw [z11]; rfl
  have k11_0 : Kd G0 h11 o (.inl 2) := by rw [z11]; exact Kd_nwn k10_0 n10
  clear n10 k10_0
  refine J_putRF fl_RX2_27 (by first | exact Or.inl ⟨_, rfl⟩ | exact Or.inr ⟨_, rfl⟩) (Or.inl rfl) rfl fs_RX2_27 k11_0 dX2_init_51 ?_
  refine J_gz (fun h12 z12 => ?_)
  have n12 : hn h12 = (n + 6) := by rw [z12]; exact n11
  have k12_0 : Kd G0 h12 o (.inl 2) := by rw [z12]; exact k11_0
  clear n11 k11_0
  subst z12 z11 z10 z9 z8 z7 z6 z5 z4 z3 z2 z1
  exact J_return rfl dX2_init_54 K
