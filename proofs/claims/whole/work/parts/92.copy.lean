/-! rows copied: Arrays.copyOf, Text.copied -/
theorem gx_new {h : AH} (h7 : 76 ≤ hn h) : ∀ k, GX.2 (hn h) k = none := by
  intro k
  have l : gxr.length ≤ 76 := by decide
  have e : gxr.getD (hn h) [] = [] := by
    rw [List.getD_eq_getElem?_getD, List.getElem?_eq_none (by omega)]
    rfl
  show (match k with | .ofNat n => (gxr.getD (hn h) []).getD n none | .negSucc _ => none) = none
  rw [e]
  cases k <;> rfl
/-- one row more, which begins as row a does -/
def MkX (h h' : AH) (a n : Nat) : Prop := hn h' = hn h + 1 ∧ kd h' (hn h) = .inr (0, n) ∧ (∀ k : Int, 0 ≤ k → k < n → gi h' (hn h) k = gi h a k) ∧ (∀ o, o ≠ hn h → kd h' o = kd h o ∧ (∀ k, gi h' o k = gi h o k) ∧ (∀ k, rf h' o k = rf h o k) ∧ ∀ k, gl h' o k = gl h o k)
theorem gl_cln' (h : AH) (a o : Nat) (k : Int) : gl (cln h a) o k = if o = hn h then 0 else gl h o k := rfl
theorem gl_nw' (h : AH) (t : AK) (o : Nat) (k : Int) : gl (nw h t) o k = if o = hn h then 0 else gl h o k := rfl
section COPY
variable {d b : Nat} {Q : Option AV → AH → Prop} {h : AH}
theorem c_copyOf {a na n : Nat} (hk : Kd GX h a (.inr (0, na))) (ha : a ≠ hn h) (hn' : n ≤ na ∧ na ≤ 900) (h7 : 76 ≤ hn h) (K : ∀ h', MkX h h' a n → Q (some (vR (some (hn h)))) h') : WM GX (d + 1) (b + (na + 1)) mJ7_copyOf_59c91 [vR (some a), vI (n : Int)] h Q := by
  refine WM_introE (loc' := [some (vR (some a)), some (vI (n : Int)), none]) rfl (by decide) (Nat.le_of_ble_eq_true rfl) ?_
  refine J_iload_n rfl dJ7_copyOf_59c91_0 ?_
  refine J_aload_n rfl dJ7_copyOf_59c91_1 ?_
  refine J_alen (by decide) (by omega) hk dJ7_copyOf_59c91_2 ?_
  refine J_icmp_ne (tgt := 14) dJ7_copyOf_59c91_3 (by decide) (fun c => ?_) (fun c => ?_)
  · refine J_bw (b' := b + (n + 1)) (by omega) ?_
    refine J_iload_n rfl dJ7_copyOf_59c91_14 ?_
    refine J_newarray0 (by omega) (gx_new h7) ac_i dJ7_copyOf_59c91_15 ?_
    have k2 : Kd GX (nw h (.inr (0, n))) (hn h) (.inr (0, n)) := Or.inr ⟨by rw [kd_nw, if_pos rfl], by rw [hn_nw]; omega⟩
    have k1 : Kd GX (nw h (.inr (0, n))) a (.inr (0, na)) := by
      rcases hk with z | z
      · exact Or.inl z
      · exact Or.inr ⟨by rw [kd_nw, if_neg ha]; exact z.1, by rw [hn_nw]; omega⟩
    refine J_astore_n (loc' := [some (vR (some a)), some (vI (n : Int)), some (vR (some (hn h)))]) (by decide) rfl dJ7_copyOf_59c91_17 ?_
    refine J_aload_n rfl dJ7_copyOf_59c91_18 ?_
    refine J_iconst (by decide) dJ7_copyOf_59c91_19 ?_
    refine J_aload_n rfl dJ7_copyOf_59c91_20 ?_
    refine J_iconst (by decide) dJ7_copyOf_59c91_21 ?_
    refine J_aload_n rfl dJ7_copyOf_59c91_22 ?_
    refine J_alen (by decide) (by omega) k1 dJ7_copyOf_59c91_23 ?_
    refine J_iload_n rfl dJ7_copyOf_59c91_24 ?_
    refine J_mmin ml_RJ7_304 (Nat.le_of_ble_eq_true rfl) dJ7_copyOf_59c91_25 ?_
    rw [show min ((na : Nat) : Int) ((n : Nat) : Int) = n by omega]
    refine J_copy ml_RJ7_150 k1 k2 ⟨by decide, by decide, by omega⟩ (by omega) (by omega) (Nat.le_of_ble_eq_true rfl) dJ7_copyOf_59c91_28 ?_
    refine J_aload_n rfl dJ7_copyOf_59c91_31 ?_
    refine J_areturn ⟨_, rfl, Or.inr ⟨_, rfl⟩⟩ dJ7_copyOf_59c91_32 (K _ ⟨rfl, ?_, fun k k0 k1 => ?_, fun o ho => ⟨?_, fun k => ?_, fun k => ?_, fun k => ?_⟩⟩)
    · rw [kd_cpy, kd_nw, if_pos rfl]
    · rw [gi_cpy, if_pos ⟨rfl, by omega, by omega⟩, gi_nw, if_neg ha]
      congr 1
      omega
    · rw [kd_cpy, kd_nw, if_neg ho]
    · rw [gi_cpy, if_neg (fun z => ho z.1), gi_nw, if_neg ho]
    · rw [rf_cpy, rf_nw, if_neg ho]
    · show gl (nw h (.inr (0, n))) o k = _
      rw [gl_nw', if_neg ho]
  · have e : n = na := by omega
    subst e
    refine J_aload_n rfl dJ7_copyOf_59c91_6 ?_
    refine J_clone (gx_new h7) rfl hk (Nat.le_of_ble_eq_true rfl) dJ7_copyOf_59c91_7 ?_
    have kd2 : kd h a = .inr (0, n) ∨ True := Or.inr True.intro
    refine J_rgh (fun _ G => ?_)
    have kk : kd (cln h a) (hn h) = .inr (0, n) := by
      rw [kd_cln, if_pos rfl]
      rcases hk with z | z
      · have q := (G.1 a _ z).1
        rw [kd_cln, if_neg ha] at q
        exact q
      · exact z.1
    have k2 : Kd GX (cln h a) (hn h) (.inr (0, n)) := Or.inr ⟨kk, Nat.lt_succ_self _⟩
    refine J_castA rfl k2 cl_RJ7_317 dJ7_copyOf_59c91_10 ?_
    refine J_areturn ⟨_, rfl, Or.inr ⟨_, rfl⟩⟩ dJ7_copyOf_59c91_13 (K _ ⟨rfl, kk, fun k k0 k1 => ?_, fun o ho => ⟨?_, fun k => ?_, fun k => ?_, fun k => ?_⟩⟩)
    · rw [gi_cln, if_pos rfl]
    · rw [kd_cln, if_neg ho]
    · rw [gi_cln, if_neg ho]
    · rw [rf_cln, if_neg ho]
    · rw [gl_cln', if_neg ho]
theorem c_X5_init {t a s : Nat} (hk : Kd GX h t (.inl 5)) (hg : ∀ k, GX.2 t k = none) (K : Q none (sr (sr (si (si h t 0 0) t 2 0) t 1 (some a)) t 3 (some s))) : WM GX (d + 1) b mX5_init [vR (some t), vR (some a), vR (some s)] h Q := by
  refine WM_introE (loc' := [some (vR (some t)), some (vR (some a)), some (vR (some s))]) rfl (by decide) (Nat.le_of_ble_eq_true rfl) ?_
  refine J_aload_n rfl dX5_init_0 ?_
  refine J_objinit ml_RX5_3 (Nat.le_of_ble_eq_true rfl) dX5_init_1 ?_
  refine J_aload_n rfl dX5_init_4 ?_
  refine J_iconst (by decide) dX5_init_5 ?_
  refine J_putI fl_RX5_9 rfl hk dX5_init_6 ?_
  refine J_aload_n rfl dX5_init_9 ?_
  refine J_iconst (by decide) dX5_init_10 ?_
  refine J_putI fl_RX5_15 rfl hk dX5_init_11 ?_
  refine J_aload_n rfl dX5_init_14 ?_
  refine J_aload_n rfl dX5_init_15 ?_
  refine J_putRF fl_RX5_18 (Or.inr ⟨_, rfl⟩) (Or.inl (hg _)) rfl fs_RX5_18 hk dX5_init_16 ?_
  refine J_aload_n rfl dX5_init_19 ?_
  refine J_aload_n rfl dX5_init_20 ?_
  refine J_putRF fl_RX5_22 (Or.inr ⟨_, rfl⟩) (Or.inl (hg _)) rfl fs_RX5_22 hk dX5_init_21 ?_
  exact J_return rfl dX5_init_24 K
/-- the draft stands copied at the heap's end -/
def CpX (h h' : AH) (c l : Nat) : Prop := hn h' = hn h + 3 ∧ (∀ o, o < hn h → kd h' o = kd h o ∧ (∀ k, gi h' o k = gi h o k) ∧ (∀ k, rf h' o k = rf h o k) ∧ ∀ k, gl h' o k = gl h o k) ∧
  kd h' (hn h) = .inl 5 ∧ kd h' (hn h + 1) = .inr (0, c) ∧ kd h' (hn h + 2) = .inr (0, l) ∧ rf h' (hn h) 1 = some (hn h + 1) ∧ rf h' (hn h) 3 = some (hn h + 2) ∧ gi h' (hn h) 0 = gi h 35 0 ∧ gi h' (hn h) 2 = gi h 35 2 ∧ (∀ k : Int, 0 ≤ k → k < c → gi h' (hn h + 1) k = gi h 36 k) ∧ ∀ k : Int, 0 ≤ k → k < l → gi h' (hn h + 2) k = gi h 37 k
theorem c_X5_copied (h7 : 76 ≤ hn h) {n l : Nat} (e0 : gi h 35 0 = n) (e2 : gi h 35 2 = l) (hr : n ≤ 12 ∧ l ≤ 872) (K : ∀ h', CpX h h' (5 * n) l → Q (some (vR (some (hn h)))) h') : WM GX (d + 2) 999 mX5_copied [vR (some 35)] h Q := by
  refine WM_introE (loc' := [some (vR (some 35)), none]) rfl (by decide) (Nat.le_of_ble_eq_true rfl) ?_
  refine J_bw (b' := (0 + ((872 + 1) + (0 + (60 + 1)))) + (4 + 1)) (by decide) ?_
  refine J_new (ci := 5) (q0 := (RX5, TX5, 4)) rfl (gx_new h7) cl_RX5_10 ci_RX5 cn_RX5 (fun k hk => ?_) dX5_copied_0 ?_
  · have : k = 0 ∨ k = 1 ∨ k = 2 ∨ k = 3 := by
      have : k < 4 := hk
      omega
    rcases this with z | z | z | z <;> subst z <;> rfl
  obtain ⟨h1, z1⟩ : ∃ h1, nw h (.inl 5) = h1 := ⟨_, rfl⟩
  have n1 : hn h1 = hn h + 1 := by rw [← z1]; rfl
  have kt1 : kd h1 (hn h) = .inl 5 := by rw [← z1, kd_nw, if_pos rfl]
  have g1 : ∀ o, o ≠ hn h → kd h1 o = kd h o ∧ (∀ k, gi h1 o k = gi h o k) ∧ (∀ k, rf h1 o k = rf h o k) ∧ ∀ k, gl h1 o k = gl h o k := fun o ho => by
    rw [← z1]
    exact ⟨by rw [kd_nw, if_neg ho], fun k => by rw [gi_nw, if_neg ho], fun k => by rw [rf_nw, if_neg ho], fun k => by rw [gl_nw', if_neg ho]⟩
  rw [z1]
  clear z1
  refine J_dup rfl dX5_copied_3 ?_
  refine J_aload_n rfl dX5_copied_4 ?_
  refine J_getS (r := 36) fl_RX5_18 rfl (Or.inl rfl) rfl dX5_copied_5 ?_
  refine J_aload_n rfl dX5_copied_8 ?_
  refine J_getI fl_RX5_9 rfl (Or.inl rfl) dX5_copied_9 ?_
  rw [show gi h1 35 ((0 : Nat) : Int) = n from ((g1 35 (by omega)).2.1 0).trans e0]
  refine J_iconst (by decide) dX5_copied_12 ?_
  refine J_imul (by omega) dX5_copied_13 ?_
  rw [show ((n : Nat) : Int) * 5 = ((5 * n : Nat) : Int) by omega]
  refine J_bw (b' := (0 + (60 + 1)) + (0 + (872 + 1))) (by decide) ?_
  refine J_callS (b1 := 0 + (60 + 1)) (b2 := 0 + (872 + 1)) (vs := [vR (some 36), vI ((5 * n : Nat) : Int)]) (rest := [vR (some (hn h)), vR (some (hn h))]) (Or.inl rfl) ml_RX5_25 rfl (Nat.le_of_ble_eq_true rfl) (Nat.le_of_ble_eq_true rfl) rfl dX5_copied_14 (c_copyOf (na := 60) (Or.inl rfl) (by omega) (by omega) (by omega) (fun h2 M2 => ?_))
  obtain ⟨m1, m2, m3, m4⟩ := M2
  show J GX _ _ _ _ _ _ [vR (some (hn h1)), vR (some (hn h)), vR (some (hn h))] _
  refine J_aload_n rfl dX5_copied_17 ?_
  refine J_getS (r := 37) fl_RX5_22 rfl (Or.inl rfl) rfl dX5_copied_18 ?_
  refine J_aload_n rfl dX5_copied_21 ?_
  refine J_getI fl_RX5_15 rfl (Or.inl rfl) dX5_copied_22 ?_
  rw [show gi h2 35 ((2 : Nat) : Int) = l from ((m4 35 (by omega)).2.1 2).trans (((g1 35 (by omega)).2.1 2).trans e2)]
  refine J_bw (b' := (0 + (872 + 1)) + 0) (by decide) ?_
  refine J_callS (b1 := 0 + (872 + 1)) (b2 := 0) (vs := [vR (some 37), vI (l : Int)]) (rest := [vR (some (hn h1)), vR (some (hn h)), vR (some (hn h))]) (Or.inl rfl) ml_RX5_25 rfl (Nat.le_of_ble_eq_true rfl) (Nat.le_of_ble_eq_true rfl) rfl dX5_copied_25 (c_copyOf (na := 872) (Or.inl rfl) (by omega) (by omega) (by omega) (fun h3 M3 => ?_))
  obtain ⟨p1, p2, p3, p4⟩ := M3
  show J GX _ _ _ _ _ _ [vR (some (hn h2)), vR (some (hn h1)), vR (some (hn h)), vR (some (hn h))] _
  have kt3 : kd h3 (hn h) = .inl 5 := ((p4 _ (by omega)).1).trans (((m4 _ (by omega)).1).trans kt1)
  have K3 : Kd GX h3 (hn h) (.inl 5) := Or.inr ⟨kt3, by omega⟩
  refine J_b0 (J_callI (b1 := 0) (vs := [vR (some (hn h1)), vR (some (hn h2))]) (rest := [vR (some (hn h))]) (Or.inl rfl) ml_RX5_31 rfl rfl (Nat.le_of_ble_eq_true rfl) (Nat.le_of_ble_eq_true rfl) rfl dX5_copied_28 (c_X5_init K3 (gx_new h7) ?_))
  show J GX _ _ _ _ _ _ [vR (some (hn h))] _
  refine J_astore_n (loc' := [some (vR (some 35)), some (vR (some (hn h)))]) (by decide) rfl dX5_copied_31 ?_
  refine J_aload_n rfl dX5_copied_32 ?_
  refine J_aload_n rfl dX5_copied_33 ?_
  refine J_getI fl_RX5_9 rfl (Or.inl rfl) dX5_copied_34 ?_
  refine J_putI fl_RX5_9 rfl K3 dX5_copied_37 ?_
  refine J_aload_n rfl dX5_copied_40 ?_
  refine J_aload_n rfl dX5_copied_41 ?_
  refine J_getI fl_RX5_15 rfl (Or.inl rfl) dX5_copied_42 ?_
  refine J_putI fl_RX5_15 rfl K3 dX5_copied_45 ?_
  refine J_aload_n rfl dX5_copied_48 ?_
  refine J_areturn ⟨_, rfl, Or.inl ⟨_, rfl⟩⟩ dX5_copied_49 (K _ ?_)
  have o3 : ∀ o, o ≠ hn h → o ≠ hn h1 → o ≠ hn h2 → kd h3 o = kd h o ∧ (∀ k, gi h3 o k = gi h o k) ∧ (∀ k, rf h3 o k = rf h o k) ∧ ∀ k, gl h3 o k = gl h o k := fun o a1 a2 a3 => by
    obtain ⟨x1, x2, x3, x4⟩ := p4 o a3
    obtain ⟨y1, y2, y3, y4⟩ := m4 o a2
    obtain ⟨w1, w2, w3, w4⟩ := g1 o a1
    exact ⟨x1.trans (y1.trans w1), fun k => (x2 k).trans ((y2 k).trans (w2 k)), fun k => (x3 k).trans ((y3 k).trans (w3 k)), fun k => (x4 k).trans ((y4 k).trans (w4 k))⟩
  have r0 : ∀ (o : Nat) (v w : Int), o ≠ hn h → ∀ k, gi (si (si (sr (sr (si (si h3 (hn h) 0 0) (hn h) 2 0) (hn h) 1 (some (hn h1))) (hn h) 3 (some (hn h2))) (hn h) ((0 : Nat) : Int) v) (hn h) ((2 : Nat) : Int) w) o k = gi h3 o k := fun o v w ho k => by
    rw [gi_no ho, gi_no ho, gi_xr, gi_xr, gi_no ho, gi_no ho]
  have s35 : ∀ k, gi (sr (sr (si (si h3 (hn h) 0 0) (hn h) 2 0) (hn h) 1 (some (hn h1))) (hn h) 3 (some (hn h2))) 35 k = gi h 35 k := fun k => by
    rw [gi_xr, gi_xr, gi_no (by omega), gi_no (by omega)]
    exact (o3 35 (by omega) (by omega) (by omega)).2.1 k
  refine ⟨?_, fun o ho => ⟨?_, fun k => ?_, fun k => ?_, fun k => ?_⟩, ?_, ?_, ?_, ?_, ?_, ?_, ?_, fun k k0 k1 => ?_, fun k k0 k1 => ?_⟩
  · show hn h3 = _
    omega
  · exact (o3 o (by omega) (by omega) (by omega)).1
  · rw [r0 o _ _ (by omega)]
    exact (o3 o (by omega) (by omega) (by omega)).2.1 k
  · show rf (sr (sr _ (hn h) 1 _) (hn h) 3 _) o k = _
    rw [rf_sr, if_neg (by omega), rf_sr, if_neg (by omega)]
    exact (o3 o (by omega) (by omega) (by omega)).2.2.1 k
  · exact (o3 o (by omega) (by omega) (by omega)).2.2.2 k
  · exact kt3
  · show kd h3 (hn h + 1) = _
    rw [← n1, (p4 _ (by omega)).1, m2]
  · show kd h3 (hn h + 2) = _
    rw [show hn h + 2 = hn h2 by omega, p2]
  · show rf (sr (sr _ (hn h) 1 _) (hn h) 3 _) (hn h) 1 = _
    rw [rf_sr, if_neg (by omega), rf_eq, n1]
  · show rf (sr (sr _ (hn h) 1 _) (hn h) 3 _) (hn h) 3 = _
    rw [rf_eq, show hn h2 = hn h + 2 by omega]
  · show gi (si (si _ (hn h) 0 _) (hn h) 2 _) (hn h) 0 = _
    rw [gi_nk (by decide), gi_eq]
    exact s35 0
  · show gi (si (si _ (hn h) 0 _) (hn h) 2 _) (hn h) 2 = _
    rw [gi_eq]
    show gi (si _ (hn h) _ _) 35 2 = _
    rw [gi_no (by omega)]
    exact s35 2
  · rw [r0 _ _ _ (by omega), ← n1, (p4 _ (by omega)).2.1, m3 k k0 k1, (g1 36 (by omega)).2.1]
  · rw [r0 _ _ _ (by omega), show hn h + 2 = hn h2 by omega, p3 k k0 k1, (m4 37 (by omega)).2.1, (g1 37 (by omega)).2.1]
end COPY
