/-! THE LAW'S WALK -/
theorem flatN {s : State} {b : Nat} (h : (Jvm.Cond.and given_1 narrow_1).before #[Value.ref b] s = true) {w : Cond} (hw : w ∈ flatC (Jvm.Cond.and given_1 narrow_1)) : w.before #[Value.ref b] s = true := flat_of_before _ h w hw
theorem hel_of {s : State} {b : Nat} (B : List Int32) (h : ∀ j : Nat, j < 148 → (Cond.eq (.elem (.field wTm "java/lang/String" "value" "[B") (.int (Int32.ofNat j))) (.int (B.getD j 0))).before #[Value.ref b] s = true) : ∀ i : Nat, i < 1 → ∀ j : Nat, j < ([148] : List Nat).getD i 0 → (Cond.eq (.elem (.field ((fun _ => wTm) i) "java/lang/String" "value" "[B") (.int (Int32.ofNat j))) (.int ((([B] : List (List Int32)).getD i []).getD j 0))).before #[Value.ref b] s = true := fun i hi j hj => by
  have : i = 0 := by omega
  subst this
  exact h j hj
theorem law_SF {s : State} {b : Nat} (h : (Jvm.Cond.and given_1 narrow_1).before #[Value.ref b] s = true) (hts : ∀ w ∈ lw_tbl, w.before #[Value.ref b] s = true) : ∃ w0, SFs w0 (Ag s) s s.heap := by
  have hA : ∀ a : Nat, a < s.heap.size → ¬ Ag s a := fun a z y => absurd y (Nat.not_le.mpr z)
  obtain ⟨adK, adV, hS, hE⟩ := vk_Sof (args := #[Value.ref b]) (s := s) (N := 1) (tm := fun _ => wTm) (len := [148]) (byt := [wBy]) (A := Ag s) (fun i hi => by
    have : i = 0 := by omega
    subst this
    decide) (fun i hi => flatN h w_ex) (fun i hi => flatN h w_co) (fun i hi => flatN h w_ar) (fun i hi => by
    have : i = 0 := by omega
    subst this
    exact flatN h w_le) (hel_of wBy (fun j hj => flatN h (wEl_in j hj))) (fun i j hi hj e => by omega) hA
  have zc := va_Zof (A := Ag s) (hts _ lS_cs) (hts _ iS_str) (va_eqi (flatN h w_cs)) hA
  have hR : vk_R RX3 102 wTx (adK 0) s := vk_R.of (hts _ sR_w) (hE 0 (by decide))
  have e1 : (fun i => adK i) = adK := rfl
  have hS1 : vk_S 1 [wBy.length] [wBy] (fun _ => adK 0) (fun _ => adV 0) (Ag s) s s.heap := by
    rw [wBy_len]
    refine ⟨fun i hi => ?_, fun i j hi hj _ => by omega⟩
    have : i = 0 := by omega
    subst this
    exact hS.1 0 (by decide)
  rcases va_Zqof (A := Ag s) (hts _ lS_fo) (hts _ iS_pre) (flatN h w_fo) hA with z | ⟨t, z⟩
  · exact ⟨(adK 0, adV 0, none), hR, hS1, zc, z⟩
  · exact ⟨(adK 0, adV 0, some t), hR, hS1, zc, z⟩
theorem law_K {s : State} {b : Nat} (hts : ∀ w ∈ lw_tbl, w.before #[Value.ref b] s = true) : ∃ (D : va_G) (cA : Nat → ClassId), va_K D vwCl (tysJ cA) s := by
  have hc : ∀ k : Nat, ∃ q : ClassId × (Nat → Nat), ∀ r : vw_C, vwCl[k]? = some r → u_Kn s r.1 r.2.1 r.2.2 q.1 q.2 := fun k => by
    cases hk : vwCl[k]? with
    | none => exact ⟨(0, fun _ => 0), fun r z => by cases z⟩
    | some r0 =>
      have hin := (clsOk hk).1
      have hi : Cond.instantiable r0.1 r0.2.2 ∈ jT := by
        have hk9 : k < 9 := (List.getElem?_eq_some_iff.mp hk).1
        match k, hk, hk9 with
        | 0, hk, _ => cases hk; exact ci_RX0
        | 1, hk, _ => cases hk; exact ci_RX1
        | 2, hk, _ => cases hk; exact ci_RX2
        | 3, hk, _ => cases hk; exact ci_RX3
        | 4, hk, _ => cases hk; exact ci_RX4
        | 5, hk, _ => cases hk; exact ci_RX5
        | 6, hk, _ => cases hk; exact ci_RX6
        | 7, hk, _ => cases hk; exact ci_RX7
        | 8, hk, _ => cases hk; exact ci_RX8
        | k + 9, _, h9 => omega
      obtain ⟨c0, iS, h0⟩ := u_known (ws := jT) (fun w hw => hts w (jT_tbl hw)) hin (hts _ (jT_tbl hi))
      exact ⟨(c0, iS), fun r z => by cases z; exact h0⟩
  obtain ⟨dd, hd⟩ := Classical.axiomOfChoice hc
  have a1 : ∀ ty : FieldType, Cond.arrayClass ty ∈ jT → (∀ n, ty ≠ .object n) → ∃ cA, ArrOfT s cA ty ∧ s.vm.findClass ("[" ++ ty.toString) = some cA := fun ty hw _ => by
    obtain ⟨cA, kA, comp, h1, h2, h3⟩ := Cond.arrayClass_spec (hts _ (jT_tbl hw))
    exact ⟨cA, fun n z => ⟨fun k h => (by cases h), kA, h2, comp, h3⟩, h1⟩
  have a2 : ∀ C : String, Cond.arrayOver (.object C) ∈ jT → ∃ cA, ArrOfT s cA (.object C) ∧ va_RA s cA (.object C) := fun C hw => by
    obtain ⟨comp, cA, kA, f1, fi, f2, f3, f5⟩ := Cond.arrayOver_spec (hts _ (jT_tbl hw))
    exact ⟨cA, fun n z => ⟨fun k h => (by cases h), kA, f2, comp, f3⟩, kA, comp, f2, f3, f1, f5⟩
  obtain ⟨k0, b0, n0⟩ := a1 .int ac_i (fun n z => by cases z)
  obtain ⟨k1, b1, n1⟩ := a1 .boolean ac_z (fun n z => by cases z)
  obtain ⟨k2, b2, n2⟩ := a1 .long ac_l (fun n z => by cases z)
  obtain ⟨k4, b4, n4⟩ := a2 RX5 ac_text
  refine ⟨(fun k => (dd k).1, fun k => (dd k).2), fun k => if k = 0 then k0 else if k = 1 then k1 else if k = 2 then k2 else k4, fun k r z => hd k r z, fun k q z => ?_⟩
  have hk5 : k < 5 := (List.getElem?_eq_some_iff.mp z).1
  match k, z, hk5 with
  | 0, z, _ => cases z; exact ⟨b0, n0⟩
  | 1, z, _ => cases z; exact ⟨b1, n1⟩
  | 2, z, _ => cases z; exact ⟨b2, n2⟩
  | 3, z, _ => cases z; exact ⟨b4, n4⟩
  | 4, z, _ => cases z; exact ⟨b4, n4⟩
  | k + 5, _, h5 => omega
section WALK
variable {p : Program} {l : Launch} {e : Env} {s : State} {m : MethodId} {below : List Frame} {meth : Method} {c : Code} {b L : Nat} {xs : Nat → Int32} {D : va_G} {cA : Nat → ClassId} {w0 : WT} {aX aM : Nat}
/-- how much room is used ahead of the nth call -/
def Nf (n : Nat) : Nat := 60000 + 999 * n
theorem Nf_s (n : Nat) : Nf n + 999 = Nf (n + 1) := by
  unfold Nf
  omega
theorem Nf_le {n : Nat} (h : n ≤ 512) : Nf n ≤ 571488 := by
  unfold Nf
  omega
/-- the law's loop -/
theorem law_loop (C : LwE p s m meth c b L xs D cA w0) : ∀ (f n n' : Nat) (hX hM : AH), n + f = 512 → n' ≤ n → RR n' hX hM → LJ p l e s m below meth c b D cA w0 aX aM GX GM (Nf n) 18 (loc4 b aX aM ((6 * n : Nat) : Int)) [] hX hM := by
  intro f
  induction f with
  | zero =>
    intro n n' hX hM hf hn R adX adM H ls locs cells slots C1
    obtain ⟨⟨hx, hb, hr, hml, hown, hts0, hX0, hbl, hlocks, hgv⟩, hL3, hK, hSF⟩ := id C
    obtain ⟨p1, p2, d1, d2, ap, hS, o1, o2, g1, g2, a1, a2, hl, hc, hs⟩ := id C1
    refine lv_iload_n hx hb dL_law_18 rfl (lv_at hl 0 rfl) ?_
    refine lv_aload_n hx hb dL_law_19 rfl (lv_at hl 3 rfl) ?_
    refine va_slen (b := b) (L := L) (xs := xs) hx hb hX0 hbl (A := Ag s) (Nat.not_le.mpr hbl) hS dL_law_20 ?_
    refine lv_bipush (v := Int32.ofInt 6) hx hb dL_law_21 (by decide) ?_
    refine lv_isub hx hb dL_law_23 ?_
    have en : Int32.ofNat L - Int32.ofInt 6 = Int32.ofInt ((L : Int) - 6) := by
      rw [show Int32.ofNat L = Int32.ofInt (L : Int) from Int32.ofInt_eq_ofNat.symm, ← Int32.ofInt_sub]
    rw [en]
    refine lv_icmp_gt (tgt := 1329) hx hb dL_law_24 (by decide) (fun _ => ?_) (fun z => absurd ((i32_lt (by omega) (by omega)).mpr (by omega)) z)
    refine lv_iconst (v := 1) hx hb dL_law_1329 (by decide) ?_
    refine va_forget (fun q hq => hS.2.2 q hq) ?_
    have hNf := Nf_le (n := n) (by omega)
    refine W.widen (k := 600000) (n := 7302250) (by omega) (by omega) ?_
    exact lw_ret hx hb hr hlocks dL_law_1330
  | succ f ih =>
    intro n n' hX hM hf hn R
    have again : ∀ h1 h2, (∃ n2, n2 ≤ n + 1 ∧ RR n2 h1 h2) → LJ p l e s m below meth c b D cA w0 aX aM GX GM (Nf n + 999) 1323 (loc4 b aX aM ((6 * n : Nat) : Int)) [] h1 h2 := fun h1 h2 ⟨n2, hn2, R2⟩ => by
      intro adX adM H ls locs cells slots C1
      have hl := C1.2.2.2.2.2.2.2.2.2.2.2.2.1
      have hv : Int32.ofInt ((6 * n : Nat) : Int) + Int32.ofInt 6 = Int32.ofInt ((6 * (n + 1) : Nat) : Int) := by
        rw [← Int32.ofInt_add]
        congr 1
      refine lv_iinc C.1.1 C.1.2.1 dL_law_1323 hl (k := 0) rfl hv (by decide) rfl (fun ls1 hl1 => ?_)
      refine lv_goto (tgt := 18) C.1.1 C.1.2.1 dL_law_1326 (by decide) ?_
      obtain ⟨p1, p2, d1, d2, ap, hS, o1, o2, g1, g2, a1, a2, hl0, hc, hs⟩ := C1
      exact ih (n + 1) n2 h1 h2 (by omega) hn2 R2 adX adM H ls1 locs cells slots ⟨p1, p2, d1, d2, ap, hS, o1, o2, g1, g2, a1, a2, hl1, by rw [← Nf_s]; exact hc, by rw [← Nf_s]; exact hs⟩
    intro adX adM H ls locs cells slots C1
    obtain ⟨⟨hx, hb, hr, hml, hown, hts0, hX0, hbl, hlocks, hgv⟩, hL3, hK, hSF⟩ := id C
    obtain ⟨p1, p2, d1, d2, ap, hS, o1, o2, g1, g2, a1, a2, hl, hc, hs⟩ := id C1
    refine lv_iload_n hx hb dL_law_18 rfl (lv_at hl 0 rfl) ?_
    refine lv_aload_n hx hb dL_law_19 rfl (lv_at hl 3 rfl) ?_
    refine va_slen (b := b) (L := L) (xs := xs) hx hb hX0 hbl (A := Ag s) (Nat.not_le.mpr hbl) hS dL_law_20 ?_
    refine lv_bipush (v := Int32.ofInt 6) hx hb dL_law_21 (by decide) ?_
    refine lv_isub hx hb dL_law_23 ?_
    have en : Int32.ofNat L - Int32.ofInt 6 = Int32.ofInt ((L : Int) - 6) := by
      rw [show Int32.ofNat L = Int32.ofInt (L : Int) from Int32.ofInt_eq_ofNat.symm, ← Int32.ofInt_sub]
    rw [en]
    refine lv_icmp_gt (tgt := 1329) hx hb dL_law_24 (by decide) (fun _ => ?_) (fun z => ?_)
    · refine lv_iconst (v := 1) hx hb dL_law_1329 (by decide) ?_
      refine va_forget (fun q hq => hS.2.2 q hq) ?_
      have hNf := Nf_le (n := n) (by omega)
      refine W.widen (k := 600000) (n := 7302250) (by omega) (by omega) ?_
      exact lw_ret hx hb hr hlocks dL_law_1330
    · have hi : 6 * n + 6 ≤ L := by
        rcases Nat.lt_or_ge L (6 * n + 6) with q | q
        · exact absurd ((i32_lt (by omega) (by omega)).mpr (by omega)) z
        · exact q
      refine lv_aload_n hx hb dL_law_27 rfl (lv_at hl 3 rfl) ?_
      refine lv_iload_n hx hb dL_law_28 rfl (lv_at hl 0 rfl) ?_
      have hR : R32 ((6 * n : Nat) : Int) := by omega
      have e5 : (Int32.ofInt ((6 * n : Nat) : Int)).toNatClampNeg = 6 * n := by
        show ((Int32.ofInt ((6 * n : Nat) : Int)).toInt).toNat = _
        rw [z32 hR]
        omega
      refine va_sld (b := b) (L := L) (xs := xs) hx hb hX0 hbl (A := Ag s) (Nat.not_le.mpr hbl) hS (vin hR (by omega)) dL_law_29 ?_
      rw [e5]
      refine lv_bipush (v := 63) hx hb dL_law_30 (by decide) ?_
      refine lv_iand hx hb dL_law_32 ?_
      have hNf := Nf_le (n := n) (by omega)
      exact law_sw C R (by omega) hi (by omega) (again hX hM ⟨n', by omega, R⟩) (fun h1 h2 R2 => again h1 h2 ⟨n' + 1, by omega, R2⟩) adX adM H ls locs cells slots C1
end WALK
theorem E0_ok : OkH E0 := ⟨fun _ _ => by show R32 0; decide, fun _ _ => by show R64 0; decide, fun _ _ _ z => by cases z⟩
theorem cw_E0 {cA : Nat → ClassId} {ad : Nat → Nat} : cw cA ad E0 = [] := rfl
theorem G0_any (h : AH) : Gd G0 h := ⟨fun _ _ z => (by cases z), fun _ _ _ z => (by cases z)⟩
/-- a new object alone in its heap -/
def fs1 (ci : Nat) : List Value := (List.range (nf ci)).map (fun k => fv (fun _ => 0) (nwn E0 0 (.inl ci)) 0 ci k)
theorem fs1_ad {ci : Nat} (ad : Nat → Nat) : (List.range (nf ci)).map (fun k => fv ad (nwn E0 0 (.inl ci)) 0 ci k) = fs1 ci := List.map_congr_left fun k _ => by
  unfold fv
  rw [rf_nwn, if_pos rfl]
  rfl
theorem cw_one {cA : Nat → ClassId} {ci : Nat} (ad : Nat → Nat) : cw cA ad (nwn E0 0 (.inl ci)) = [(ad 0, .inr (ci, fs1 ci))] := by
  rw [← fs1_ad ad]
  rfl
theorem E1_ok {t : AK} : OkH (nwn E0 0 t) := ⟨fun o k => by
  rw [gi_nwn]
  split
  · decide
  · exact E0_ok.1 o k, fun o k => by
  show R64 (if o = 0 then 0 else 0)
  split <;> decide, fun o k r z => by
  rw [rf_nwn] at z
  split at z
  · cases z
  · cases z⟩
theorem df_one {ci j : Nat} (hj : j < nf ci) (hd : defaultValue (vwTy ci j) = (match ft ci j with | 0 => .int 0 | 1 => .long 0 | _ => .null)) : defaultValue (vwTy ci j) = vp_V (fs1 ci) j := by
  rw [hd]
  unfold vp_V fs1
  rw [List.getD_eq_getElem?_getD, fs_get hj, Option.getD_some]
  unfold fv
  rw [gi_nwn, rf_nwn, if_pos rfl, if_pos rfl, show gl (nwn E0 0 (.inl ci)) 0 j = 0 from rfl]
  generalize ft ci j = z
  match z with
  | 0 => rfl
  | 1 => rfl
  | n + 2 => rfl
theorem va_P_l {D : va_G} {cl : List vw_C} {w1 w2 : va_W} {H : Heap} (h : va_P D cl (w1 ++ w2) H) : va_P D cl w1 H := fun k q e => h k q (by rw [List.getElem?_append_left (List.getElem?_eq_some_iff.mp e).1]; exact e)
theorem va_P_r {D : va_G} {cl : List vw_C} {w1 w2 : va_W} {H : Heap} (h : va_P D cl (w1 ++ w2) H) : va_P D cl w2 H := fun k q e => h (w1.length + k) q (by rw [List.getElem?_append_right (Nat.le_add_right _ _), Nat.add_sub_cancel_left]; exact e)
theorem va_D_lr {A : Nat → Prop} {w1 w2 : va_W} (h : va_D A (w1 ++ w2)) : va_D A w1 ∧ va_D A w2 ∧ Apt w1 w2 := by
  have g1 : ∀ (k : Nat) (q : Nat × va_E), w1[k]? = some q → (w1 ++ w2)[k]? = some q ∧ k < w1.length := fun k q e => ⟨by rw [List.getElem?_append_left (List.getElem?_eq_some_iff.mp e).1]; exact e, (List.getElem?_eq_some_iff.mp e).1⟩
  have g2 : ∀ (k : Nat) (q : Nat × va_E), w2[k]? = some q → (w1 ++ w2)[w1.length + k]? = some q := fun k q e => by rw [List.getElem?_append_right (Nat.le_add_right _ _), Nat.add_sub_cancel_left]; exact e
  refine ⟨⟨fun i j x y e1 e2 e => h.1 i j x y (g1 i x e1).1 (g1 j y e2).1 e, fun k q e => h.2 k q (g1 k q e).1⟩, ⟨fun i j x y e1 e2 e => ?_, fun k q e => h.2 _ q (g2 k q e)⟩, fun i j x y e1 e2 e => ?_⟩
  · have := h.1 _ _ x y (g2 i x e1) (g2 j y e2) e
    omega
  · have := h.1 _ _ x y (g1 i x e1).1 (g2 j y e2) e
    have := (g1 i x e1).2
    omega
set_option maxHeartbeats 4000000 in
theorem whole_start {p : Program} {e : Env} {s : State} {m : MethodId} {below : List Frame} {meth : Method} {c : Code} (l : Launch) (hflags : l.flags = flags0) {b L : Nat} {xs : Nat → Int32} (hL : L ≤ 3072) (C0 : lw_At p s m meth c b L xs) : W p l e room_1 s m #[Value.ref b] below meth c s.heap [] 0 0 (lw_Z below #[Value.ref b] s) (entryFrame m ([Value.ref b] : List Value).toArray 4) := by
  obtain ⟨hx, hb, hr, hml, hown, hts, hX, hbl, hlocks, hgv⟩ := id C0
  obtain ⟨D, cA, hK⟩ := law_K hts
  obtain ⟨w0, hSF⟩ := law_SF hgv hts
  have C : LwE p s m meth c b L xs D cA w0 := ⟨C0, hL, hK, hSF⟩
  have hA : ∀ q : Nat, s.heap.size ≤ q → Ag s q := fun _ h => h
  have hS : va_S (Ag s) s.heap s.heap [] := va_S.rf
  have hP : va_P D vwCl [] s.heap := fun k q h => by simp at h
  have hD : va_D (Ag s) [] := ⟨fun i j p q h => by simp at h, fun k q h => by simp at h⟩
  have htj := lw_fix C
  have hl := lv_entry ([.ref b]) (n := 4) (Nat.le_of_ble_eq_true rfl)
  rw [lg_entry_eq]
  generalize (lg_sl ([.ref b]) ++ List.replicate (4 - (lg_sl ([.ref b])).length) Slot.unset).toArray = ls at hl ⊢
  have hl : lv_has ls 4 [(0, .ref b)] := hl
  have cl7 := clsOk (ci := 7) (q := (RX7, TX7, 17)) rfl
  have cl8 := clsOk (ci := 8) (q := (RX8, TX8, 58)) rfl
  refine va_new (ci := 7) (C := RX7) (T := TX7) (N := 17) hx hb htj cl7.1 (vwTy 7) cl7.2.1 hown (htj _ cl_RL_7) (htj _ ci_RX7) (htj _ cn_RX7) hK hP hD hS hA rfl (fs := fs1 7) (fun j hj => df_one hj (dfl7 j hj)) (Nat.le_of_ble_eq_true rfl) (Nat.le_of_ble_eq_true rfl) dL_law_0 (fun aX H1 p1 d1 hS1 => ?_)
  have p1 : va_P D vwCl (cw cA (fun _ => aX) (nwn E0 0 (.inl 7))) H1 := by
    rw [cw_one]
    exact p1
  have d1 : va_D (Ag s) (cw cA (fun _ => aX) (nwn E0 0 (.inl 7))) := by
    rw [cw_one]
    exact d1
  refine lv_dup hx hb dL_law_3 rfl ?_
  refine lw_callI (d := 0 + 3) (b1 := 19840) (h := nwn E0 0 (.inl 7)) (ad := fun _ => aX) (wb := []) (Q := fun r h => r = none ∧ h = hXc) (rest := [.ref aX]) C p1 (fun k q h => by simp at h) d1 (fun i j p q _ h => by simp at h) hS1 E1_ok (G0_any _) hl.1 ml_RL_9 rfl (Nat.le_of_ble_eq_true rfl) (Nat.zero_lt_one) (Nat.le_of_ble_eq_true rfl) dL_law_4 (Nat.le_of_ble_eq_true rfl) ⟨Nat.le_of_ble_eq_true rfl, Nat.le_of_ble_eq_true rfl⟩ (c_fleetH Kd_new0 rfl ⟨rfl, rfl⟩) (fun r h' adX H2 locs2 hq k1 k2 q1 q2 e1 ap' hS2 o1 g1 => ?_)
  obtain ⟨rfl, rfl⟩ := hq
  obtain ⟨adX, k1, q1, e1, o1⟩ : ∃ ad : Nat → Nat, ad 0 = aX ∧ va_P D vwCl (cw cA ad hXs) H2 ∧ va_D (Ag s) (cw cA ad hXs) ∧ OkH hXs := ⟨fun o => adX (tau o), k1 0 Nat.zero_lt_one, va_P_pm hnXc q1, va_D_pm hnXc e1, okH_pm hnXc o1⟩
  refine lv_astore_n (lv' := [(1, .ref aX), (0, .ref b)]) hx hb dL_law_7 rfl hl (by decide) rfl (fun ls hl => ?_)
  refine va_new (ci := 8) (C := RX8) (T := TX8) (N := 58) hx hb htj cl8.1 (vwTy 8) cl8.2.1 hown (htj _ cl_RL_10) (htj _ ci_RX8) (htj _ cn_RX8) hK q1 e1 hS2 hA rfl (fs := fs1 8) (fun j hj => df_one hj (dfl8 j hj)) (Nat.le_of_ble_eq_true rfl) (Nat.le_of_ble_eq_true rfl) dL_law_8 (fun aM H3 p3 d3 hS3 => ?_)
  obtain ⟨dX, dM, ap⟩ := va_D_lr d3
  have pX := va_P_l p3
  have pM : va_P D vwCl (cw cA (fun _ => aM) (nwn E0 0 (.inl 8))) H3 := by
    rw [cw_one]
    exact va_P_r p3
  have dM : va_D (Ag s) (cw cA (fun _ => aM) (nwn E0 0 (.inl 8))) := by
    rw [cw_one]
    exact dM
  have ap : Apt (cw cA (fun _ => aM) (nwn E0 0 (.inl 8))) (cw cA adX hXs) := by
    rw [cw_one]
    exact ap.symm
  refine lv_dup hx hb dL_law_11 rfl ?_
  refine lw_callI (d := 0 + 1) (b1 := 23752) (h := nwn E0 0 (.inl 8)) (ad := fun _ => aM) (wb := cw cA adX hXs) (Q := fun r h => r = none ∧ h = hMs) (rest := [.ref aM]) C pM pX dM ap hS3 E1_ok (G0_any _) hl.1 ml_RL_12 rfl (Nat.le_of_ble_eq_true rfl) (Nat.zero_lt_one) (Nat.le_of_ble_eq_true rfl) dL_law_12 (Nat.le_of_ble_eq_true rfl) ⟨Nat.le_of_ble_eq_true rfl, Nat.le_of_ble_eq_true rfl⟩ (c_modelH Kd_new0 rfl ⟨rfl, rfl⟩) (fun r h' adM H4 locs4 hq j1 j2 r1 r2 f1 ap4 hS4 o4 g4 => ?_)
  obtain ⟨rfl, rfl⟩ := hq
  refine lv_astore_n (lv' := [(2, .ref aM), (1, .ref aX), (0, .ref b)]) hx hb dL_law_15 rfl hl (by decide) rfl (fun ls hl => ?_)
  refine lv_iconst (v := Int32.ofInt ((6 * 0 : Nat) : Int)) hx hb dL_law_16 rfl ?_
  refine lv_istore_n (lv' := loc4 b aX aM ((6 * 0 : Nat) : Int)) hx hb dL_law_17 rfl hl (by decide) rfl (fun ls hl => ?_)
  exact law_loop (aX := aX) (aM := aM) C 512 0 0 hXs hMs rfl (Nat.le_refl 0) rr0 adX adM H4 ls locs4 _ _ ⟨r2, r1, dX, f1, ap4.symm, hS4, o1, o4, gdX, gdM, fun _ => k1, fun _ => j1 0 Nat.zero_lt_one, hl, Nat.le_of_ble_eq_true rfl, Nat.le_of_ble_eq_true rfl⟩
