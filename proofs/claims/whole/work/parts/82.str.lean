/-! the text of words: its length, its letters, as the JDK's own methods tell them -/
/-- the letters of the text of words -/
def wAt (k : Int) : Int := (wBy.getD k.toNat 0).toInt
theorem wBy_all : ∀ k : Nat, k < 148 → (0 ≤ (wBy.getD k 0).toInt ∧ (wBy.getD k 0).toInt ≤ 122) ∧ wBy.getD k 0 &&& 255 = wBy.getD k 0 ∧ ((wBy.getD k 0).toUInt32 % 65536).toInt32 = wBy.getD k 0 ∧ narrow .char (.int (wBy.getD k 0)) = .int (wBy.getD k 0) := by decide +kernel
theorem wBy_len : wBy.length = 148 := by decide +kernel
theorem SFs.tb {w0 : WT} {A : Nat → Prop} {U : State} {H : Heap} (h : SFs w0 A U H) : va_T .byte w0.2.1 148 (fun j => .int (wBy.getD j 0)) A U H := by
  have q := (h.2.1.1 0 (by decide)).2.2.2
  simp only [List.getD_cons_zero] at q
  rw [wBy_len] at q
  exact q
section ROWS
variable {G : GT} {d b : Nat} {y : Mth} {Q : Option AV → AH → Prop} {pc : Nat} {loc loc' : List (Option AV)} {st : List AV} {h : AH}
theorem J_sval (hcl : y.1.cls = RJ0) (hd : decode y.2.1 pc = .ok (.getfield 9, 3)) (k : J G d b y Q (pc + 3) loc (vB :: st) h) : J G d b y Q pc loc (vS :: st) h := by
  intro p l e s m args below meth c D cA w0 A B n0 ad0 ad H ls locs cells slots C
  obtain ⟨⟨hx, hb, hml, hr, hts, hown, hnm, hlk⟩, hK, hA, hSF, hP, hD, hS, hO, hG, hst, hlo, hL, had, hn0, hc, hs⟩ := id C
  have K := k p l e s m args below meth c D cA w0 A B n0 ad0 ad H ls locs cells slots (CJ_st C (ok_c trivial (ok_t hst)))
  exact vk_getf hx hb (hSF.2.1.1 0 (by decide)).2.2.1 hS (show s.vm.findClass RJ0 = some m.cls from hcl ▸ hown) (hts _ (mem_jT (mt7 (List.mem_of_getElem? (i := 163) rfl)) rfl)) (fun x z => z) hd K
theorem J_scod (hcl : y.1.cls = RJ0) (hd : decode y.2.1 pc = .ok (.getfield 15, 3)) (k : J G d b y Q (pc + 3) loc (vI 0 :: st) h) : J G d b y Q pc loc (vS :: st) h := by
  intro p l e s m args below meth c D cA w0 A B n0 ad0 ad H ls locs cells slots C
  obtain ⟨⟨hx, hb, hml, hr, hts, hown, hnm, hlk⟩, hK, hA, hSF, hP, hD, hS, hO, hG, hst, hlo, hL, had, hn0, hc, hs⟩ := id C
  have K := k p l e s m args below meth c D cA w0 A B n0 ad0 ad H ls locs cells slots (CJ_st C (ok_c (show R32 0 by decide) (ok_t hst)))
  exact vk_getf hx hb (hSF.2.1.1 0 (by decide)).2.1 hS (show s.vm.findClass RJ0 = some m.cls from hcl ▸ hown) (hts _ (mem_jT (mt7 (List.mem_of_getElem? (i := 164) rfl)) rfl)) (fun x z => z) hd K
theorem J_scs (hcl : y.1.cls = RJ0) (hd : decode y.2.1 pc = .ok (.getstatic 38, 3)) (k : J G d b y Q (pc + 3) loc (vI 1 :: st) h) : J G d b y Q pc loc st h := by
  intro p l e s m args below meth c D cA w0 A B n0 ad0 ad H ls locs cells slots C
  obtain ⟨⟨hx, hb, hml, hr, hts, hown, hnm, hlk⟩, hK, hA, hSF, hP, hD, hS, hO, hG, hst, hlo, hL, had, hn0, hc, hs⟩ := id C
  have K := k p l e s m args below meth c D cA w0 A B n0 ad0 ad H ls locs cells slots (CJ_st C (ok_c (show R32 1 by decide) hst))
  exact va_gets hx hb hSF.2.2.1 hS (show s.vm.findClass RJ0 = some m.cls from hcl ▸ hown) (hts _ (mem_jT (mt3 (List.mem_of_getElem? (i := 26) rfl)) rfl)) (fun x z => z) hd K
theorem J_sfmt (hcl : y.1.cls = RJ0) (hd : decode y.2.1 pc = .ok (.getstatic 1053, 3)) (k : J G d b y Q (pc + 3) loc (vF :: st) h) : J G d b y Q pc loc st h := by
  intro p l e s m args below meth c D cA w0 A B n0 ad0 ad H ls locs cells slots C
  obtain ⟨⟨hx, hb, hml, hr, hts, hown, hnm, hlk⟩, hK, hA, hSF, hP, hD, hS, hO, hG, hst, hlo, hL, had, hn0, hc, hs⟩ := id C
  have K := k p l e s m args below meth c D cA w0 A B n0 ad0 ad H ls locs cells slots (CJ_st C (ok_c trivial hst))
  exact va_gets hx hb hSF.2.2.2 hS (show s.vm.findClass RJ0 = some m.cls from hcl ▸ hown) (hts _ (mem_jT (mt3 (List.mem_of_getElem? (i := 42) rfl)) rfl)) (fun x z => z) hd K
theorem J_blen (hd : decode y.2.1 pc = .ok (.arraylength, 1)) (k : J G d b y Q (pc + 1) loc (vI 148 :: st) h) : J G d b y Q pc loc (vB :: st) h := by
  intro p l e s m args below meth c D cA w0 A B n0 ad0 ad H ls locs cells slots C
  obtain ⟨⟨hx, hb, hml, hr, hts, hown, hnm, hlk⟩, hK, hA, hSF, hP, hD, hS, hO, hG, hst, hlo, hL, had, hn0, hc, hs⟩ := id C
  have K := k p l e s m args below meth c D cA w0 A B n0 ad0 ad H ls locs cells slots (CJ_st C (ok_c (show R32 148 by decide) (ok_t hst)))
  exact va_tlen hx hb hSF.tb hS (show Int32.ofNat 148 = Int32.ofInt 148 by decide) hd K
theorem J_bldd {i : Int} (hi : 0 ≤ i ∧ i < 148) (hd : decode y.2.1 pc = .ok (.baload, 1)) (k : J G d b y Q (pc + 1) loc (vI (wAt i) :: st) h) : J G d b y Q pc loc (vI i :: vB :: st) h := by
  intro p l e s m args below meth c D cA w0 A B n0 ad0 ad H ls locs cells slots C
  obtain ⟨⟨hx, hb, hml, hr, hts, hown, hnm, hlk⟩, hK, hA, hSF, hP, hD, hS, hO, hG, hst, hlo, hL, had, hn0, hc, hs⟩ := id C
  have hR : R32 i := ok_h hst
  have w := wBy_all i.toNat (by omega)
  have K := k p l e s m args below meth c D cA w0 A B n0 ad0 ad H ls locs cells slots (CJ_st C (ok_c (show R32 (wAt i) by unfold wAt; omega) (ok_t (ok_t hst))))
  refine va_tb hx hb hSF.tb hS (i := Int32.ofInt i) (vin hR (n := 148) (by omega)) (v := .int (Int32.ofInt (wAt i))) ?_ hd K
  have e : (Int32.ofInt i).toNatClampNeg = i.toNat := by
    have := cidx hR hi.1
    omega
  rw [e]
  unfold wAt
  rw [Int32.ofInt_toInt]
theorem J_i2c {x : Int} (hx' : ((Int32.ofInt x).toUInt32 % 65536).toInt32 = Int32.ofInt x) (hd : decode y.2.1 pc = .ok (.i2c, 1)) (k : J G d b y Q (pc + 1) loc (vI x :: st) h) : J G d b y Q pc loc (vI x :: st) h := by
  intro p l e s m args below meth c D cA w0 A B n0 ad0 ad H ls locs cells slots C
  obtain ⟨⟨hx, hb, hml, hr, hts, hown, hnm, hlk⟩, hK, hA, hSF, hP, hD, hS, hO, hG, hst, hlo, hL, had, hn0, hc, hs⟩ := id C
  have K := k p l e s m args below meth c D cA w0 A B n0 ad0 ad H ls locs cells slots C
  exact lv_i2c hx hb hd hx' K
theorem J_nreturn {x : Int} {ty : FieldType} (hrt : y.2.2.2 = some ty) (hn : narrow ty (.int (Int32.ofInt x)) = .int (Int32.ofInt x)) (hd : decode y.2.1 pc = .ok (.ireturn, 1)) (k : Q (some (vI x)) h) : J G d b y Q pc loc [vI x] h := by
  intro p l e s m args below meth c D cA w0 A B n0 ad0 ad H ls locs cells slots C
  obtain ⟨⟨hx, hb, hml, hr, hts, hown, hnm, hlk⟩, hK, hA, hSF, hP, hD, hS, hO, hG, hst, hlo, hL, had, hn0, hc, hs⟩ := id C
  have hq : ∀ t : State, t.heap = H → s.WarmedH t.vm → QJ G cA D w0 A n0 ad0 Q args s (.returned (((some (vI x)) : Option AV).map (cv w0 ad))) t := fun t ht _ => ⟨(some (vI x)), h, ad, rfl, had, hn0, ht ▸ hP, hD, hO, hG, (fun v e => by cases e; exact ok_h hst), hS.F ht, k⟩
  refine W.widen (k := B) (n := B) (by omega) (by omega) ?_
  exact W.zret hx hb (hr.trans hrt) hn hq (fun q z => hS.2.2 q z) hd hlk
/-- a call on the text of words -/
theorem J_callVS {b1 b2 : Nat} {y' : Mth} {idx np : Nat} {vs rest : List AV} (ml : ML 0 y.1.cls idx y' np) (hv : vs.length = np) (hmL : y'.2.2.1 ≤ 45) (hcl : y'.1.cls = "java/lang/String") (h4 : rest.length ≤ 4) (hst0 : st = vs.reverse ++ vS :: rest) (hd : decode y.2.1 pc = .ok (.invokevirtual idx, 3))
    (hM : WM G d b1 y' (vS :: vs) h (fun r h' => J G (d + 1) b2 y Q (pc + 3) loc (r.toList ++ rest) h')) : J G (d + 1) (b1 + b2) y Q pc loc st h := by
  subst hst0
  intro p l e s m args below meth c D cA w0 A B n0 ad0 ad H ls locs cells slots C
  obtain ⟨⟨hx, hb, hml, hr, hts, hown, hnm, hlk⟩, hK, hA, hSF, hP, hD, hS, hO, hG, hst, hlo, hL, had, hn0, hc, hs⟩ := id C
  have hvs : ∀ v ∈ vS :: vs, OkV h v := fun v z => hst v (by
    rcases List.mem_cons.mp z with z | z
    · rw [z]; simp
    · simp [z])
  have hrest : ∀ v ∈ rest, OkV h v := fun v z => hst v (by simp [z])
  have hM1 := hM l D cA w0 H.size ad hO hG hvs
  obtain ⟨m1, m2, m3, m4⟩ := ml
  have hrecv := vk_recv (i := 0) hSF.2.1 (by decide) hS
  have hroom : (rmJ d b1).frames + 1 ≤ (rmJ (d + 1) B).frames ∧ 8 + (y'.2.2.1 + 11) + (rmJ d b1).locals ≤ (rmJ (d + 1) B).locals := ⟨Nat.le_refl _, by show _ + 64 * d ≤ 64 * (d + 1); omega⟩
  have hf : cells + b1 ≤ (rmJ (d + 1) B).cells ∧ slots + b1 ≤ (rmJ (d + 1) B).slots := ⟨by show _ ≤ B; omega, by show _ ≤ B; omega⟩
  have hlen : (vs.map (cv w0 ad)).length = np := by rw [List.length_map, hv]
  have mr : (vs.reverse ++ vS :: rest).map (cv w0 ad) = (vs.map (cv w0 ad)).reverse ++ .ref w0.1 :: rest.map (cv w0 ad) := by
    rw [List.map_append, List.map_reverse, List.map_cons]
    rfl
  rw [mr]
  refine J_run (aa := (Value.ref w0.1 :: vs.map (cv w0 ad)).toArray) C hrest ?_
  obtain ⟨k1, k2, k3⟩ := m4
  exact va_runV (As := vs.map (cv w0 ad)) (rest := rest.map (cv w0 ad)) ⟨hx, hb, hml, hown, hts⟩ hM1 ⟨callB_of np hts (lw_gd m1) rfl rfl rfl (hts _ m2) (hts _ k1) m3 hroom, hts _ k2, hts _ k3⟩ ⟨PJ_blind, hcl ▸ hrecv, fun U hU hW => J_pre (vs := vS :: vs) C U hU hW⟩ rfl hlen hL.1 rfl (lv_room (csum4 h4)) hd hf
theorem J_aload_s {j : Fin 4} {u : Nat} (hl : loc[(j : Nat)]? = some (some (.inr (.inr (.inr u))))) (hd : decode y.2.1 pc = .ok (.aload_n j, 1)) (k : J G d b y Q (pc + 1) loc ((.inr (.inr (.inr u))) :: st) h) : J G d b y Q pc loc st h := by
  intro p l e s m args below meth c D cA w0 A B n0 ad0 ad H ls locs cells slots C
  obtain ⟨⟨hx, hb, hml, hr, hts, hown, hnm, hlk⟩, hK, hA, hSF, hP, hD, hS, hO, hG, hst, hlo, hL, had, hn0, hc, hs⟩ := id C
  have K := k p l e s m args below meth c D cA w0 A B n0 ad0 ad H ls locs cells slots (CJ_st C (ok_c trivial hst))
  have hv : cv w0 ad (.inr (.inr (.inr u))) = .null ∨ ∃ a, cv w0 ad (.inr (.inr (.inr u))) = .ref a := by
    match u with
    | 0 => exact Or.inr ⟨_, rfl⟩
    | 1 => exact Or.inr ⟨_, rfl⟩
    | u + 2 =>
      show va_rf w0.2.2 = _ ∨ ∃ a, va_rf w0.2.2 = _
      cases w0.2.2 with
      | none => exact Or.inl rfl
      | some a => exact Or.inr ⟨a, rfl⟩
  have L := hL.2.2.2 _ _ hl
  rw [List.map_cons] at K
  rcases hv with e | ⟨a, e⟩ <;> rw [e] at K L
  · exact lv_aload_nN hx hb hd rfl L K
  · exact lv_aload_n hx hb hd rfl L K
theorem c_J0_coder (K : Q (some (vI 0)) h) : WM G d b mJ0_coder_7d493 [vS] h Q := by
  refine WM_introE (loc' := [some vS]) rfl (by decide) (Nat.le_of_ble_eq_true rfl) ?_
  refine J_scs rfl dJ0_coder_7d493_0 ?_
  refine J_if_eq (tgt := 13) dJ0_coder_7d493_3 (by decide) (fun c => absurd c (by decide)) (fun _ => ?_)
  refine J_aload_s rfl dJ0_coder_7d493_6 ?_
  refine J_scod rfl dJ0_coder_7d493_7 ?_
  refine J_goto (tgt := 14) dJ0_coder_7d493_10 (by decide) ?_
  exact J_nreturn rfl rfl dJ0_coder_7d493_14 K
theorem c_J0_length (K : Q (some (vI 148)) h) : WM G (d + 1) b mJ0_length_8abf5 [vS] h Q := by
  refine WM_introE (loc' := [some vS]) rfl (by decide) (Nat.le_of_ble_eq_true rfl) ?_
  refine J_aload_s rfl dJ0_length_8abf5_0 ?_
  refine J_sval rfl dJ0_length_8abf5_1 ?_
  refine J_blen dJ0_length_8abf5_4 ?_
  refine J_aload_s rfl dJ0_length_8abf5_5 ?_
  refine J_b0 (J_callVS (b1 := 0) (vs := []) (rest := [vI 148]) ml_RJ0_335 rfl (Nat.le_of_ble_eq_true rfl) rfl (by decide) rfl dJ0_length_8abf5_6 (c_J0_coder ?_))
  refine J_ishr dJ0_length_8abf5_9 ?_
  have e : zshr 148 0 = 148 := by decide
  rw [e]
  exact J_ireturn rfl dJ0_length_8abf5_10 K
theorem c_J0_isLatin1 (K : Q (some (vI 1)) h) : WM G d b mJ0_isLatin1_aae02 [vS] h Q := by
  refine WM_introE (loc' := [some vS]) rfl (by decide) (Nat.le_of_ble_eq_true rfl) ?_
  refine J_scs rfl dJ0_isLatin1_aae02_0 ?_
  refine J_if_eq (tgt := 17) dJ0_isLatin1_aae02_3 (by decide) (fun c => absurd c (by decide)) (fun _ => ?_)
  refine J_aload_s rfl dJ0_isLatin1_aae02_6 ?_
  refine J_scod rfl dJ0_isLatin1_aae02_7 ?_
  refine J_if_ne (tgt := 17) dJ0_isLatin1_aae02_10 (by decide) (fun c => absurd rfl c) (fun _ => ?_)
  refine J_iconst (by decide) dJ0_isLatin1_aae02_13 ?_
  refine J_goto (tgt := 18) dJ0_isLatin1_aae02_14 (by decide) ?_
  exact J_zreturn ⟨rfl, Or.inr rfl⟩ dJ0_isLatin1_aae02_18 K
theorem c_J3_checkIndex {i n : Int} (hi : 0 ≤ i ∧ i < n) (K : Q (some (vI i)) h) : WM G d b mJ3_checkIndex_8e157 [vI i, vI n, vF] h Q := by
  refine WM_introE (loc' := [some (vI i), some (vI n), some vF]) rfl (by decide) (Nat.le_of_ble_eq_true rfl) ?_
  refine J_iload_n rfl dJ3_checkIndex_8e157_0 ?_
  refine J_if_lt (tgt := 9) dJ3_checkIndex_8e157_1 (by decide) (fun c => by omega) (fun _ => ?_)
  refine J_iload_n rfl dJ3_checkIndex_8e157_4 ?_
  refine J_iload_n rfl dJ3_checkIndex_8e157_5 ?_
  refine J_icmp_lt (tgt := 16) dJ3_checkIndex_8e157_6 (by decide) (fun _ => ?_) (fun c => by omega)
  refine J_iload_n rfl dJ3_checkIndex_8e157_16 ?_
  exact J_ireturn rfl dJ3_checkIndex_8e157_17 K
theorem c_J0_checkIndex {i n : Int} (hi : 0 ≤ i ∧ i < n) (K : Q none h) : WM G (d + 1) b mJ0_checkIndex_df160 [vI i, vI n] h Q := by
  refine WM_introE (loc' := [some (vI i), some (vI n)]) rfl (by decide) (Nat.le_of_ble_eq_true rfl) ?_
  refine J_iload_n rfl dJ0_checkIndex_df160_0 ?_
  refine J_iload_n rfl dJ0_checkIndex_df160_1 ?_
  refine J_sfmt rfl dJ0_checkIndex_df160_2 ?_
  refine J_b0 (J_callS (b1 := 0) (vs := [vI i, vI n, vF]) (rest := []) (Or.inl rfl) ml_RJ0_1059 rfl (Nat.le_of_ble_eq_true rfl) (by decide) rfl dJ0_checkIndex_df160_5 (c_J3_checkIndex hi ?_))
  refine J_pop rfl dJ0_checkIndex_df160_8 ?_
  exact J_return rfl dJ0_checkIndex_df160_9 K
theorem wAt_R {i : Int} (hi : 0 ≤ i ∧ i < 148) : zand (wAt i) 255 = wAt i ∧ ((Int32.ofInt (wAt i)).toUInt32 % 65536).toInt32 = Int32.ofInt (wAt i) ∧ narrow .char (.int (Int32.ofInt (wAt i))) = .int (Int32.ofInt (wAt i)) := by
  obtain ⟨w1, w2, w3, w4⟩ := wBy_all i.toNat (by omega)
  unfold wAt zand
  rw [Int32.ofInt_toInt]
  refine ⟨?_, w3, w4⟩
  rw [show Int32.ofInt 255 = (255 : Int32) by decide, w2]
theorem c_J1_charAt {i : Int} (hi : 0 ≤ i ∧ i < 148) (K : Q (some (vI (wAt i))) h) : WM G (d + 2) b mJ1_charAt_3b067 [vB, vI i] h Q := by
  obtain ⟨w1, w2, w3⟩ := wAt_R hi
  refine WM_introE (loc' := [some vB, some (vI i)]) rfl (by decide) (Nat.le_of_ble_eq_true rfl) ?_
  refine J_iload_n rfl dJ1_charAt_3b067_0 ?_
  refine J_aload_s rfl dJ1_charAt_3b067_1 ?_
  refine J_blen dJ1_charAt_3b067_2 ?_
  refine J_b0 (J_callS (b1 := 0) (vs := [vI i, vI 148]) (rest := []) (Or.inl rfl) ml_RJ1_9 rfl (Nat.le_of_ble_eq_true rfl) (by decide) rfl dJ1_charAt_3b067_3 (c_J0_checkIndex hi ?_))
  refine J_aload_s rfl dJ1_charAt_3b067_6 ?_
  refine J_iload_n rfl dJ1_charAt_3b067_7 ?_
  refine J_bldd hi dJ1_charAt_3b067_8 ?_
  refine J_sipush (by decide) (by decide) dJ1_charAt_3b067_9 ?_
  refine J_iand dJ1_charAt_3b067_12 ?_
  rw [w1]
  refine J_i2c w2 dJ1_charAt_3b067_13 ?_
  exact J_nreturn rfl w3 dJ1_charAt_3b067_14 K
theorem c_J0_charAt {i : Int} (hi : 0 ≤ i ∧ i < 148) (K : Q (some (vI (wAt i))) h) : WM G (d + 3) b mJ0_charAt_5068e [vS, vI i] h Q := by
  refine WM_introE (loc' := [some vS, some (vI i)]) rfl (by decide) (Nat.le_of_ble_eq_true rfl) ?_
  refine J_aload_s rfl dJ0_charAt_5068e_0 ?_
  refine J_b0 (J_callVS (b1 := 0) (vs := []) (rest := []) ml_RJ0_492 rfl (Nat.le_of_ble_eq_true rfl) rfl (by decide) rfl dJ0_charAt_5068e_1 (c_J0_isLatin1 ?_))
  refine J_if_eq (tgt := 16) dJ0_charAt_5068e_4 (by decide) (fun c => absurd c (by decide)) (fun _ => ?_)
  refine J_aload_s rfl dJ0_charAt_5068e_7 ?_
  refine J_sval rfl dJ0_charAt_5068e_8 ?_
  refine J_iload_n rfl dJ0_charAt_5068e_11 ?_
  refine J_b0 (J_callS (b1 := 0) (vs := [vB, vI i]) (rest := []) (Or.inl rfl) ml_RJ0_495 rfl (Nat.le_of_ble_eq_true rfl) (by decide) rfl dJ0_charAt_5068e_12 (c_J1_charAt hi ?_))
  exact J_nreturn rfl (wAt_R hi).2.2 dJ0_charAt_5068e_15 K
theorem J_strlen (hcl : y.1.cls = RX3) (h4 : st.length ≤ 4) (hd : decode y.2.1 pc = .ok (.invokevirtual 104, 3)) (k : J G (d + 5) b y Q (pc + 3) loc (vI 148 :: st) h) : J G (d + 5) b y Q pc loc (vS :: st) h :=
  J_b0 (J_callVS (b1 := 0) (vs := []) (rest := st) (hcl ▸ ml_RX3_104) rfl (Nat.le_of_ble_eq_true rfl) rfl h4 rfl hd (c_J0_length (d := d + 3) k))
theorem J_strat {i : Int} (hcl : y.1.cls = RX3) (h4 : st.length ≤ 4) (hi : 0 ≤ i ∧ i < 148) (hd : decode y.2.1 pc = .ok (.invokevirtual 109, 3)) (k : J G (d + 5) b y Q (pc + 3) loc (vI (wAt i) :: st) h) : J G (d + 5) b y Q pc loc (vI i :: vS :: st) h :=
  J_b0 (J_callVS (b1 := 0) (vs := [vI i]) (rest := st) (hcl ▸ ml_RX3_109) rfl (Nat.le_of_ble_eq_true rfl) rfl h4 rfl hd (c_J0_charAt (d := d + 1) hi k))
end ROWS
