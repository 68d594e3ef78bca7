/-! ROWS OF J: arrays, what is made, ends -/
section ROWC
variable {G : GT} {d b : Nat} {y : Mth} {Q : Option AV → AH → Prop} {pc : Nat} {loc loc' : List (Option AV)} {st : List AV} {h : AH}
theorem cidx {i : Int} (hR : R32 i) (h0 : 0 ≤ i) : (((Int32.ofInt i).toNatClampNeg : Nat) : Int) = i := by rw [clamp hR h0]; omega
theorem cidx_ne {i : Int} {j : Nat} (hR : R32 i) (h0 : 0 ≤ i) (hj : ¬ j = (Int32.ofInt i).toNatClampNeg) : ¬ ((j : Int) = i) := by rw [clamp hR h0] at hj; omega
theorem ca_0 {ad : Nat → Nat} {h : AH} {o : Nat} : ca ad h o 0 = .inl (fun j => Int32.ofInt (gi h o j)) := rfl
theorem ca_1 {ad : Nat → Nat} {h : AH} {o : Nat} : ca ad h o 1 = .inl (fun j => Int32.ofInt (gi h o j)) := rfl
theorem ca_2 {ad : Nat → Nat} {h : AH} {o : Nat} : ca ad h o 2 = .inr (.inl (fun j => Int64.ofInt (gl h o j))) := rfl
theorem ca_3 {ad : Nat → Nat} {h : AH} {o : Nat} : ca ad h o 3 = .inr (.inr (.inr (.inr (fun j => (rf h o j).map ad)))) := rfl
theorem ca_4 {ad : Nat → Nat} {h : AH} {o : Nat} : ca ad h o 4 = .inr (.inr (.inr (.inr (fun j => (rf h o j).map ad)))) := rfl
theorem ceI {c : ClassId} {n : Nat} {f g : Nat → Int32} (e : ∀ j, f j = g j) : (Sum.inl (c, n, Sum.inl f) : va_E) = .inl (c, n, .inl g) := by rw [funext e]
theorem ceL {c : ClassId} {n : Nat} {f g : Nat → Int64} (e : ∀ j, f j = g j) : (Sum.inl (c, n, Sum.inr (Sum.inl f)) : va_E) = .inl (c, n, .inr (.inl g)) := by rw [funext e]
theorem ceQ {c : ClassId} {n : Nat} {f g : Nat → Option Nat} (e : ∀ j, f j = g j) : (Sum.inl (c, n, Sum.inr (Sum.inr (Sum.inr (Sum.inr f)))) : va_E) = .inl (c, n, .inr (.inr (.inr (.inr g)))) := by rw [funext e]
theorem cell_h {cA : Nat → ClassId} {ad : Nat → Nat} {h : AH} {a t n : Nat} (hk1 : kd h a = .inr (t, n)) (hk2 : a < hn h) : (cw cA ad h)[a]? = some (ad a, .inl (cA t, n, ca ad h a t)) := by rw [cw_get hk2, ce_arr hk1]

theorem J_iaload {a n : Nat} {i : Int} (hk : Kd G h a (.inr (0, n))) (hi : 0 ≤ i ∧ i < n) (hd : decode y.2.1 pc = .ok (.iaload, 1)) (kk : J G d b y Q (pc + 1) loc (vI (gi h a i) :: st) h) : J G d b y Q pc loc (vI i :: vR (some a) :: st) h := by
  intro p l e s m args below meth c D cA w0 A B n0 ad0 ad H ls locs cells slots C
  obtain ⟨⟨hx, hb, hml, hr, hts, hown, hnm, hlk⟩, hK, hA, hSF, hP, hD, hS, hO, hG, hst, hlo, hL, had, hn0, hc, hs⟩ := id C
  obtain ⟨hk1, hk2⟩ := hk.use hG
  have hR : R32 i := ok_h hst
  refine va_iald hx hb hK hP a 0 (cell_h hk1 hk2) rfl (vin hR hi) hd ?_
  try dsimp only
  rw [cidx hR hi.1]
  exact kk p l e s m args below meth c D cA w0 A B n0 ad0 ad H ls locs cells slots (CJ_st C (ok_c (hO.1 a i) (ok_t (ok_t hst))))

theorem J_baload {a n : Nat} {i : Int} (hk : Kd G h a (.inr (1, n))) (hi : 0 ≤ i ∧ i < n) (hd : decode y.2.1 pc = .ok (.baload, 1)) (kk : J G d b y Q (pc + 1) loc (vI (gi h a i) :: st) h) : J G d b y Q pc loc (vI i :: vR (some a) :: st) h := by
  intro p l e s m args below meth c D cA w0 A B n0 ad0 ad H ls locs cells slots C
  obtain ⟨⟨hx, hb, hml, hr, hts, hown, hnm, hlk⟩, hK, hA, hSF, hP, hD, hS, hO, hG, hst, hlo, hL, had, hn0, hc, hs⟩ := id C
  obtain ⟨hk1, hk2⟩ := hk.use hG
  have hR : R32 i := ok_h hst
  refine va_zald hx hb hK hP a 1 (cell_h hk1 hk2) rfl (vin hR hi) hd ?_
  try dsimp only
  rw [cidx hR hi.1]
  exact kk p l e s m args below meth c D cA w0 A B n0 ad0 ad H ls locs cells slots (CJ_st C (ok_c (hO.1 a i) (ok_t (ok_t hst))))

theorem J_laload {a n : Nat} {i : Int} (hk : Kd G h a (.inr (2, n))) (hi : 0 ≤ i ∧ i < n) (hd : decode y.2.1 pc = .ok (.laload, 1)) (kk : J G d b y Q (pc + 1) loc (vL (gl h a i) :: st) h) : J G d b y Q pc loc (vI i :: vR (some a) :: st) h := by
  intro p l e s m args below meth c D cA w0 A B n0 ad0 ad H ls locs cells slots C
  obtain ⟨⟨hx, hb, hml, hr, hts, hown, hnm, hlk⟩, hK, hA, hSF, hP, hD, hS, hO, hG, hst, hlo, hL, had, hn0, hc, hs⟩ := id C
  obtain ⟨hk1, hk2⟩ := hk.use hG
  have hR : R32 i := ok_h hst
  refine va_lald hx hb hK hP a 2 (cell_h hk1 hk2) rfl (vin hR hi) hd ?_
  try dsimp only
  rw [cidx hR hi.1]
  exact kk p l e s m args below meth c D cA w0 A B n0 ad0 ad H ls locs cells slots (CJ_st C (ok_c (hO.2.1 a i) (ok_t (ok_t hst))))

theorem J_aaload4 {a n : Nat} {i : Int} (hk : Kd G h a (.inr (4, n))) (hi : 0 ≤ i ∧ i < n) (hd : decode y.2.1 pc = .ok (.aaload, 1)) (kk : J G d b y Q (pc + 1) loc (vR (rf h a i) :: st) h) : J G d b y Q pc loc (vI i :: vR (some a) :: st) h := by
  intro p l e s m args below meth c D cA w0 A B n0 ad0 ad H ls locs cells slots C
  obtain ⟨⟨hx, hb, hml, hr, hts, hown, hnm, hlk⟩, hK, hA, hSF, hP, hD, hS, hO, hG, hst, hlo, hL, had, hn0, hc, hs⟩ := id C
  obtain ⟨hk1, hk2⟩ := hk.use hG
  have hR : R32 i := ok_h hst
  refine va_aldq hx hb hK hP a 4 (cell_h hk1 hk2) rfl (vin hR hi) hd ?_
  try dsimp only
  rw [cidx hR hi.1]
  exact kk p l e s m args below meth c D cA w0 A B n0 ad0 ad H ls locs cells slots (CJ_st C (ok_c (fun r e => hO.2.2 a i r e) (ok_t (ok_t hst))))

theorem J_iastore {a n : Nat} {i : Int} {x : Int} (hk : Kd G h a (.inr (0, n))) (hi : 0 ≤ i ∧ i < n) (hd : decode y.2.1 pc = .ok (.iastore, 1)) (kk : J G d b y Q (pc + 1) loc st (si h a i x)) : J G d b y Q pc loc (vI x :: vI i :: vR (some a) :: st) h := by
  intro p l e s m args below meth c D cA w0 A B n0 ad0 ad H ls locs cells slots C
  obtain ⟨⟨hx, hb, hml, hr, hts, hown, hnm, hlk⟩, hK, hA, hSF, hP, hD, hS, hO, hG, hst, hlo, hL, had, hn0, hc, hs⟩ := id C
  obtain ⟨hk1, hk2⟩ := hk.use hG
  have hv := ok_h hst
  have hR : R32 i := ok_h (ok_t hst)
  have hnew : (cw cA ad h).set a (ad a, .inl (cA 0, n, .inl (upd (fun j => Int32.ofInt (gi h a j)) (Int32.ofInt i).toNatClampNeg (Int32.ofInt x)))) = cw cA ad (si h a i x) := by
    refine cw_set rfl hk2 ?_ (fun a' ha hao => ?_)
    · rw [ce_arr (t := 0) (n := n) (by exact hk1), ca_0]
      refine ceI fun j => ?_
      by_cases hj : j = (Int32.ofInt i).toNatClampNeg
      · simp [upd, vp_updL, va_up, hj, gi_si, gl_sl, rf_sr, cidx hR hi.1]
      · simp [upd, vp_updL, va_up, hj, gi_si, gl_sl, rf_sr, cidx_ne hR hi.1 hj]
    · refine ce_ad rfl ?_ ?_ ?_ (fun _ _ _ => rfl) <;> funext j <;> simp [gi_si, gl_si, rf_si, gi_sl, gl_sl, rf_sl, gi_sr, gl_sr, rf_sr, hao]
  have K : ∀ (H1 : Heap) (locs1 : List Loc), va_P D vwCl (cw cA ad (si h a i x)) H1 → va_D A (cw cA ad (si h a i x)) → va_S A s.heap H1 locs1 → _ := fun H1 locs1 p1 p2 p3 => kk p l e s m args below meth c D cA w0 A B n0 ad0 ad H1 ls locs1 cells slots ⟨⟨hx, hb, hml, hr, hts, hown, hnm, hlk⟩, hK, hA, hSF, p1, p2, p3, hO.si hv, hG, fun v z => (ok_t (ok_t (ok_t hst)) v z), fun v z => (hlo v z), hL, had, hn0, hc, hs⟩
  exact va_iast hx hb hK hP hD hS a 0 (cell_h hk1 hk2) rfl (vin hR hi) hd (fun H1 locs1 p1 p2 p3 => K H1 locs1 (hnew ▸ p1) (hnew ▸ p2) p3)

theorem J_bastore {a n : Nat} {i : Int} {x : Int} (hk : Kd G h a (.inr (1, n))) (hi : 0 ≤ i ∧ i < n) (hx01 : x = 0 ∨ x = 1) (hd : decode y.2.1 pc = .ok (.bastore, 1)) (kk : J G d b y Q (pc + 1) loc st (si h a i x)) : J G d b y Q pc loc (vI x :: vI i :: vR (some a) :: st) h := by
  intro p l e s m args below meth c D cA w0 A B n0 ad0 ad H ls locs cells slots C
  obtain ⟨⟨hx, hb, hml, hr, hts, hown, hnm, hlk⟩, hK, hA, hSF, hP, hD, hS, hO, hG, hst, hlo, hL, had, hn0, hc, hs⟩ := id C
  obtain ⟨hk1, hk2⟩ := hk.use hG
  have hv := ok_h hst
  have hR : R32 i := ok_h (ok_t hst)
  have hnew : (cw cA ad h).set a (ad a, .inl (cA 1, n, .inl (upd (fun j => Int32.ofInt (gi h a j)) (Int32.ofInt i).toNatClampNeg (Int32.ofInt x)))) = cw cA ad (si h a i x) := by
    refine cw_set rfl hk2 ?_ (fun a' ha hao => ?_)
    · rw [ce_arr (t := 1) (n := n) (by exact hk1), ca_1]
      refine ceI fun j => ?_
      by_cases hj : j = (Int32.ofInt i).toNatClampNeg
      · simp [upd, vp_updL, va_up, hj, gi_si, gl_sl, rf_sr, cidx hR hi.1]
      · simp [upd, vp_updL, va_up, hj, gi_si, gl_sl, rf_sr, cidx_ne hR hi.1 hj]
    · refine ce_ad rfl ?_ ?_ ?_ (fun _ _ _ => rfl) <;> funext j <;> simp [gi_si, gl_si, rf_si, gi_sl, gl_sl, rf_sl, gi_sr, gl_sr, rf_sr, hao]
  have K : ∀ (H1 : Heap) (locs1 : List Loc), va_P D vwCl (cw cA ad (si h a i x)) H1 → va_D A (cw cA ad (si h a i x)) → va_S A s.heap H1 locs1 → _ := fun H1 locs1 p1 p2 p3 => kk p l e s m args below meth c D cA w0 A B n0 ad0 ad H1 ls locs1 cells slots ⟨⟨hx, hb, hml, hr, hts, hown, hnm, hlk⟩, hK, hA, hSF, p1, p2, p3, hO.si hv, hG, fun v z => (ok_t (ok_t (ok_t hst)) v z), fun v z => (hlo v z), hL, had, hn0, hc, hs⟩
  refine va_zast hx hb hK hP hD hS a 1 (cell_h hk1 hk2) rfl (vin hR hi) hd ?_
  have e : vp_nar .boolean (Int32.ofInt x) = Int32.ofInt x := by rcases hx01 with z | z <;> subst z <;> rfl
  rw [e]
  exact (fun H1 locs1 p1 p2 p3 => K H1 locs1 (hnew ▸ p1) (hnew ▸ p2) p3)

theorem J_lastore {a n : Nat} {i : Int} {x : Int} (hk : Kd G h a (.inr (2, n))) (hi : 0 ≤ i ∧ i < n) (hd : decode y.2.1 pc = .ok (.lastore, 1)) (kk : J G d b y Q (pc + 1) loc st (sl h a i x)) : J G d b y Q pc loc (vL x :: vI i :: vR (some a) :: st) h := by
  intro p l e s m args below meth c D cA w0 A B n0 ad0 ad H ls locs cells slots C
  obtain ⟨⟨hx, hb, hml, hr, hts, hown, hnm, hlk⟩, hK, hA, hSF, hP, hD, hS, hO, hG, hst, hlo, hL, had, hn0, hc, hs⟩ := id C
  obtain ⟨hk1, hk2⟩ := hk.use hG
  have hv := ok_h hst
  have hR : R32 i := ok_h (ok_t hst)
  have hnew : (cw cA ad h).set a (ad a, .inl (cA 2, n, .inr (.inl (vp_updL (fun j => Int64.ofInt (gl h a j)) (Int32.ofInt i).toNatClampNeg (Int64.ofInt x))))) = cw cA ad (sl h a i x) := by
    refine cw_set rfl hk2 ?_ (fun a' ha hao => ?_)
    · rw [ce_arr (t := 2) (n := n) (by exact hk1), ca_2]
      refine ceL fun j => ?_
      by_cases hj : j = (Int32.ofInt i).toNatClampNeg
      · simp [upd, vp_updL, va_up, hj, gi_si, gl_sl, rf_sr, cidx hR hi.1]
      · simp [upd, vp_updL, va_up, hj, gi_si, gl_sl, rf_sr, cidx_ne hR hi.1 hj]
    · refine ce_ad rfl ?_ ?_ ?_ (fun _ _ _ => rfl) <;> funext j <;> simp [gi_si, gl_si, rf_si, gi_sl, gl_sl, rf_sl, gi_sr, gl_sr, rf_sr, hao]
  have K : ∀ (H1 : Heap) (locs1 : List Loc), va_P D vwCl (cw cA ad (sl h a i x)) H1 → va_D A (cw cA ad (sl h a i x)) → va_S A s.heap H1 locs1 → _ := fun H1 locs1 p1 p2 p3 => kk p l e s m args below meth c D cA w0 A B n0 ad0 ad H1 ls locs1 cells slots ⟨⟨hx, hb, hml, hr, hts, hown, hnm, hlk⟩, hK, hA, hSF, p1, p2, p3, hO.sl hv, hG, fun v z => (ok_t (ok_t (ok_t hst)) v z), fun v z => (hlo v z), hL, had, hn0, hc, hs⟩
  exact va_last hx hb hK hP hD hS a 2 (cell_h hk1 hk2) rfl (vin hR hi) hd (fun H1 locs1 p1 p2 p3 => K H1 locs1 (hnew ▸ p1) (hnew ▸ p2) p3)

theorem J_aastore4 {a n : Nat} {i : Int} {x : Option Nat} (hk : Kd G h a (.inr (4, n))) (hi : 0 ≤ i ∧ i < n) (hgs : G.2 a i = none ∨ G.2 a i = x) (hx2 : ∀ r, x = some r → Kd G h r (.inl 5)) (hd : decode y.2.1 pc = .ok (.aastore, 1)) (kk : J G d b y Q (pc + 1) loc st (sr h a i x)) : J G d b y Q pc loc (vR x :: vI i :: vR (some a) :: st) h := by
  intro p l e s m args below meth c D cA w0 A B n0 ad0 ad H ls locs cells slots C
  obtain ⟨⟨hx, hb, hml, hr, hts, hown, hnm, hlk⟩, hK, hA, hSF, hP, hD, hS, hO, hG, hst, hlo, hL, had, hn0, hc, hs⟩ := id C
  obtain ⟨hk1, hk2⟩ := hk.use hG
  have hv := ok_h hst
  have hR : R32 i := ok_h (ok_t hst)
  have hnew : (cw cA ad h).set a (ad a, .inl (cA 4, n, .inr (.inr (.inr (.inr (va_up (fun j : Nat => (rf h a j).map ad) (Int32.ofInt i).toNatClampNeg (x.map ad))))))) = cw cA ad (sr h a i x) := by
    refine cw_set rfl hk2 ?_ (fun a' ha hao => ?_)
    · rw [ce_arr (t := 4) (n := n) (by exact hk1), ca_4]
      refine ceQ fun j => ?_
      by_cases hj : j = (Int32.ofInt i).toNatClampNeg
      · simp [upd, vp_updL, va_up, hj, gi_si, gl_sl, rf_sr, cidx hR hi.1]
      · simp [upd, vp_updL, va_up, hj, gi_si, gl_sl, rf_sr, cidx_ne hR hi.1 hj]
    · refine ce_ad rfl ?_ ?_ ?_ (fun _ _ _ => rfl) <;> funext j <;> simp [gi_si, gl_si, rf_si, gi_sl, gl_sl, rf_sl, gi_sr, gl_sr, rf_sr, hao]
  have K : ∀ (H1 : Heap) (locs1 : List Loc), va_P D vwCl (cw cA ad (sr h a i x)) H1 → va_D A (cw cA ad (sr h a i x)) → va_S A s.heap H1 locs1 → _ := fun H1 locs1 p1 p2 p3 => kk p l e s m args below meth c D cA w0 A B n0 ad0 ad H1 ls locs1 cells slots ⟨⟨hx, hb, hml, hr, hts, hown, hnm, hlk⟩, hK, hA, hSF, p1, p2, p3, hO.sr (fun r e => hv r e), hG.sr hgs, fun v z => (ok_t (ok_t (ok_t hst)) v z), fun v z => (hlo v z), hL, had, hn0, hc, hs⟩
  cases x with
  | none => exact va_astqN hx hb hK hP hD hS a 4 (cell_h hk1 hk2) rfl (vin hR hi) hd (fun H1 locs1 p1 p2 p3 => K H1 locs1 (hnew ▸ p1) (hnew ▸ p2) p3)
  | some r =>
    obtain ⟨hr1, hr2⟩ := (hx2 r rfl).use hG
    exact va_astq hx hb hK hP hD hS a 4 r 5 (r := (RX5, TX5, 4)) (cell_h hk1 hk2) rfl (by rw [cw_get hr2, ce_obj hr1]) rfl (vin hR hi) hd (fun H1 locs1 p1 p2 p3 => K H1 locs1 (hnew ▸ p1) (hnew ▸ p2) p3)

theorem J_alen {a t n : Nat} (ht : t ≤ 4) (hN : n ≤ 2147483647) (hk : Kd G h a (.inr (t, n))) (hd : decode y.2.1 pc = .ok (.arraylength, 1)) (kk : J G d b y Q (pc + 1) loc (vI (n : Int) :: st) h) : J G d b y Q pc loc (vR (some a) :: st) h := by
  intro p l e s m args below meth c D cA w0 A B n0 ad0 ad H ls locs cells slots C
  obtain ⟨⟨hx, hb, hml, hr, hts, hown, hnm, hlk⟩, hK, hA, hSF, hP, hD, hS, hO, hG, hst, hlo, hL, had, hn0, hc, hs⟩ := id C
  obtain ⟨hk1, hk2⟩ := hk.use hG
  have K := kk p l e s m args below meth c D cA w0 A B n0 ad0 ad H ls locs cells slots (CJ_st C (ok_c (show R32 (n : Int) by omega) (ok_t hst)))
  have e : Int32.ofNat n = Int32.ofInt (n : Int) := Int32.ofInt_eq_ofNat.symm
  match t, ht, hk1 with
  | 0, _, hk1 => exact va_alen hx hb hK hP a 0 (cell_h hk1 hk2) rfl e hd K
  | 1, _, hk1 => exact va_alen hx hb hK hP a 1 (cell_h hk1 hk2) rfl e hd K
  | 2, _, hk1 => exact va_alen hx hb hK hP a 2 (cell_h hk1 hk2) rfl e hd K
  | 3, _, hk1 => exact va_alen hx hb hK hP a 3 (cell_h hk1 hk2) rfl e hd K
  | 4, _, hk1 => exact va_alen hx hb hK hP a 4 (cell_h hk1 hk2) rfl e hd K

theorem J_newarray0 {N : Nat} (hN : N ≤ 60000000) (hgn : ∀ k, G.2 (hn h) k = none) (hw : Cond.arrayClass .int ∈ jT) (hd : decode y.2.1 pc = .ok (.newarray .int, 2)) (kk : J G d b y Q (pc + 2) loc (vR (some (hn h)) :: st) (nw h (.inr (0, N)))) : J G d (b + (N + 1)) y Q pc loc (vI (N : Int) :: st) h := by
  intro p l e s m args below meth c D cA w0 A B n0 ad0 ad H ls locs cells slots C
  obtain ⟨⟨hx, hb, hml, hr, hts, hown, hnm, hlk⟩, hK, hA, hSF, hP, hD, hS, hO, hG, hst, hlo, hL, had, hn0, hc, hs⟩ := id C
  have hst' := ok_t hst
  have hR : R32 (N : Int) := ok_h hst
  have hcl : (Int32.ofInt (N : Int)).toNatClampNeg = N := by rw [clamp hR (by omega)]; omega
  refine va_newa (atype := .int) hx hb (hts _ hw) (ty := .int) rfl hK hP hD hS hA (N' := N) (a0 := (N, .inl (fun _ => 0))) (fun cA' => rfl) (notneg hR (by omega)) hcl (by show N * _ ≤ _; first | omega | (simp [componentBytes]; omega)) (by show _ ≤ B; omega) (by show _ ≤ B; omega) hd ?_
  intro q cA' H1 k1 p1 p2 p3
  have hcA : cA' = cA 0 := by
    have e1 := (k1.2 5 (cA', .int) rfl).2
    have e2 := (hK.2 0 (cA 0, .int) rfl).2
    exact Option.some.inj (e1.symm.trans e2)
  subst hcA
  have he1 : ce cA (fun k => if k = hn h then q else ad k) (nw h (.inr (0, N))) (hn h) = .inl (cA 0, N, .inl (fun _ => 0)) := by
    rw [ce_arr (t := 0) (n := N) (by rw [kd_nw, if_pos rfl]), ca_0]
    refine ceI fun j => ?_
    first | (rw [gi_nw, if_pos rfl]; rfl) | (rw [gl_nw, if_pos rfl]; rfl)
  · skip
    have he2 : ∀ o, o < hn h → ce cA (fun k => if k = hn h then q else ad k) (nw h (.inr (0, N))) o = ce cA ad h o := fun o ho => ce_ad (by rw [kd_nw, if_neg (by omega)]) (by funext j; rw [gi_nw, if_neg (by omega)]) (by funext j; rw [gl_nw, if_neg (by omega)]) (by funext j; rw [rf_nw, if_neg (by omega)]) (fun k r z => by have := hO.2.2 o k r z; (try dsimp only); rw [if_neg (by omega)])
    have hnew := cw_new (cA := cA) (ad := ad) (h := h) (h' := nw h (.inr (0, N))) (q := q) rfl he1 he2
    have hvk : ∀ v, OkV h v → cv w0 (fun k => if k = hn h then q else ad k) v = cv w0 ad v := fun v z => by
      rcases v with i | i | r | u
      · rfl
      · rfl
      · exact congrArg va_rf (map_ad fun k e => by have := z k e; (try dsimp only); rw [if_neg (by omega)])
      · rfl
    have hmap : ∀ l : List AV, (∀ v ∈ l, OkV h v) → l.map (cv w0 (fun k => if k = hn h then q else ad k)) = l.map (cv w0 ad) := fun l z => List.map_congr_left fun v hv => hvk v (z v hv)
    have K := kk p l e s m args below meth c D cA w0 A B n0 ad0 (fun k => if k = hn h then q else ad k) H1 ls locs (cells + 1) (slots + N) ⟨⟨hx, hb, hml, hr, hts, hown, hnm, hlk⟩, hK, hA, hSF, hnew ▸ p1, hnew ▸ p2, p3, hO.nw, hG.nw hO hgn, ok_c (fun k e => by cases e; exact Nat.lt_succ_self _) (fun v z => (hst' v z).to (Nat.le_succ _)), fun v z => (hlo v z).to (Nat.le_succ _), ⟨hL.1, hL.2.1, hL.2.2.1, fun i v z => by rw [hvk v (ok_loc hlo z)]; exact hL.2.2.2 i v z⟩, fun k z => by (try dsimp only); rw [if_neg (by omega)]; exact had k z, Nat.le_trans hn0 (Nat.le_succ _), by omega, by omega⟩
    rw [List.map_cons, hmap st hst', cv_R, if_pos rfl] at K
    exact K

theorem J_newarray1 {N : Nat} (hN : N ≤ 60000000) (hgn : ∀ k, G.2 (hn h) k = none) (hw : Cond.arrayClass .boolean ∈ jT) (hd : decode y.2.1 pc = .ok (.newarray .boolean, 2)) (kk : J G d b y Q (pc + 2) loc (vR (some (hn h)) :: st) (nw h (.inr (1, N)))) : J G d (b + (N + 1)) y Q pc loc (vI (N : Int) :: st) h := by
  intro p l e s m args below meth c D cA w0 A B n0 ad0 ad H ls locs cells slots C
  obtain ⟨⟨hx, hb, hml, hr, hts, hown, hnm, hlk⟩, hK, hA, hSF, hP, hD, hS, hO, hG, hst, hlo, hL, had, hn0, hc, hs⟩ := id C
  have hst' := ok_t hst
  have hR : R32 (N : Int) := ok_h hst
  have hcl : (Int32.ofInt (N : Int)).toNatClampNeg = N := by rw [clamp hR (by omega)]; omega
  refine va_newa (atype := .boolean) hx hb (hts _ hw) (ty := .boolean) rfl hK hP hD hS hA (N' := N) (a0 := (N, .inl (fun _ => 0))) (fun cA' => rfl) (notneg hR (by omega)) hcl (by show N * _ ≤ _; first | omega | (simp [componentBytes]; omega)) (by show _ ≤ B; omega) (by show _ ≤ B; omega) hd ?_
  intro q cA' H1 k1 p1 p2 p3
  have hcA : cA' = cA 1 := by
    have e1 := (k1.2 5 (cA', .boolean) rfl).2
    have e2 := (hK.2 1 (cA 1, .boolean) rfl).2
    exact Option.some.inj (e1.symm.trans e2)
  subst hcA
  have he1 : ce cA (fun k => if k = hn h then q else ad k) (nw h (.inr (1, N))) (hn h) = .inl (cA 1, N, .inl (fun _ => 0)) := by
    rw [ce_arr (t := 1) (n := N) (by rw [kd_nw, if_pos rfl]), ca_1]
    refine ceI fun j => ?_
    first | (rw [gi_nw, if_pos rfl]; rfl) | (rw [gl_nw, if_pos rfl]; rfl)
  · skip
    have he2 : ∀ o, o < hn h → ce cA (fun k => if k = hn h then q else ad k) (nw h (.inr (1, N))) o = ce cA ad h o := fun o ho => ce_ad (by rw [kd_nw, if_neg (by omega)]) (by funext j; rw [gi_nw, if_neg (by omega)]) (by funext j; rw [gl_nw, if_neg (by omega)]) (by funext j; rw [rf_nw, if_neg (by omega)]) (fun k r z => by have := hO.2.2 o k r z; (try dsimp only); rw [if_neg (by omega)])
    have hnew := cw_new (cA := cA) (ad := ad) (h := h) (h' := nw h (.inr (1, N))) (q := q) rfl he1 he2
    have hvk : ∀ v, OkV h v → cv w0 (fun k => if k = hn h then q else ad k) v = cv w0 ad v := fun v z => by
      rcases v with i | i | r | u
      · rfl
      · rfl
      · exact congrArg va_rf (map_ad fun k e => by have := z k e; (try dsimp only); rw [if_neg (by omega)])
      · rfl
    have hmap : ∀ l : List AV, (∀ v ∈ l, OkV h v) → l.map (cv w0 (fun k => if k = hn h then q else ad k)) = l.map (cv w0 ad) := fun l z => List.map_congr_left fun v hv => hvk v (z v hv)
    have K := kk p l e s m args below meth c D cA w0 A B n0 ad0 (fun k => if k = hn h then q else ad k) H1 ls locs (cells + 1) (slots + N) ⟨⟨hx, hb, hml, hr, hts, hown, hnm, hlk⟩, hK, hA, hSF, hnew ▸ p1, hnew ▸ p2, p3, hO.nw, hG.nw hO hgn, ok_c (fun k e => by cases e; exact Nat.lt_succ_self _) (fun v z => (hst' v z).to (Nat.le_succ _)), fun v z => (hlo v z).to (Nat.le_succ _), ⟨hL.1, hL.2.1, hL.2.2.1, fun i v z => by rw [hvk v (ok_loc hlo z)]; exact hL.2.2.2 i v z⟩, fun k z => by (try dsimp only); rw [if_neg (by omega)]; exact had k z, Nat.le_trans hn0 (Nat.le_succ _), by omega, by omega⟩
    rw [List.map_cons, hmap st hst', cv_R, if_pos rfl] at K
    exact K

theorem J_newarray2 {N : Nat} (hN : N ≤ 60000000) (hgn : ∀ k, G.2 (hn h) k = none) (hw : Cond.arrayClass .long ∈ jT) (hd : decode y.2.1 pc = .ok (.newarray .long, 2)) (kk : J G d b y Q (pc + 2) loc (vR (some (hn h)) :: st) (nw h (.inr (2, N)))) : J G d (b + (N + 1)) y Q pc loc (vI (N : Int) :: st) h := by
  intro p l e s m args below meth c D cA w0 A B n0 ad0 ad H ls locs cells slots C
  obtain ⟨⟨hx, hb, hml, hr, hts, hown, hnm, hlk⟩, hK, hA, hSF, hP, hD, hS, hO, hG, hst, hlo, hL, had, hn0, hc, hs⟩ := id C
  have hst' := ok_t hst
  have hR : R32 (N : Int) := ok_h hst
  have hcl : (Int32.ofInt (N : Int)).toNatClampNeg = N := by rw [clamp hR (by omega)]; omega
  refine va_newa (atype := .long) hx hb (hts _ hw) (ty := .long) rfl hK hP hD hS hA (N' := N) (a0 := (N, .inr (.inl (fun _ => 0)))) (fun cA' => rfl) (notneg hR (by omega)) hcl (by show N * _ ≤ _; first | omega | (simp [componentBytes]; omega)) (by show _ ≤ B; omega) (by show _ ≤ B; omega) hd ?_
  intro q cA' H1 k1 p1 p2 p3
  have hcA : cA' = cA 2 := by
    have e1 := (k1.2 5 (cA', .long) rfl).2
    have e2 := (hK.2 2 (cA 2, .long) rfl).2
    exact Option.some.inj (e1.symm.trans e2)
  subst hcA
  have he1 : ce cA (fun k => if k = hn h then q else ad k) (nw h (.inr (2, N))) (hn h) = .inl (cA 2, N, .inr (.inl (fun _ => 0))) := by
    rw [ce_arr (t := 2) (n := N) (by rw [kd_nw, if_pos rfl]), ca_2]
    refine ceL fun j => ?_
    first | (rw [gi_nw, if_pos rfl]; rfl) | (rw [gl_nw, if_pos rfl]; rfl)
  · skip
    have he2 : ∀ o, o < hn h → ce cA (fun k => if k = hn h then q else ad k) (nw h (.inr (2, N))) o = ce cA ad h o := fun o ho => ce_ad (by rw [kd_nw, if_neg (by omega)]) (by funext j; rw [gi_nw, if_neg (by omega)]) (by funext j; rw [gl_nw, if_neg (by omega)]) (by funext j; rw [rf_nw, if_neg (by omega)]) (fun k r z => by have := hO.2.2 o k r z; (try dsimp only); rw [if_neg (by omega)])
    have hnew := cw_new (cA := cA) (ad := ad) (h := h) (h' := nw h (.inr (2, N))) (q := q) rfl he1 he2
    have hvk : ∀ v, OkV h v → cv w0 (fun k => if k = hn h then q else ad k) v = cv w0 ad v := fun v z => by
      rcases v with i | i | r | u
      · rfl
      · rfl
      · exact congrArg va_rf (map_ad fun k e => by have := z k e; (try dsimp only); rw [if_neg (by omega)])
      · rfl
    have hmap : ∀ l : List AV, (∀ v ∈ l, OkV h v) → l.map (cv w0 (fun k => if k = hn h then q else ad k)) = l.map (cv w0 ad) := fun l z => List.map_congr_left fun v hv => hvk v (z v hv)
    have K := kk p l e s m args below meth c D cA w0 A B n0 ad0 (fun k => if k = hn h then q else ad k) H1 ls locs (cells + 1) (slots + N) ⟨⟨hx, hb, hml, hr, hts, hown, hnm, hlk⟩, hK, hA, hSF, hnew ▸ p1, hnew ▸ p2, p3, hO.nw, hG.nw hO hgn, ok_c (fun k e => by cases e; exact Nat.lt_succ_self _) (fun v z => (hst' v z).to (Nat.le_succ _)), fun v z => (hlo v z).to (Nat.le_succ _), ⟨hL.1, hL.2.1, hL.2.2.1, fun i v z => by rw [hvk v (ok_loc hlo z)]; exact hL.2.2.2 i v z⟩, fun k z => by (try dsimp only); rw [if_neg (by omega)]; exact had k z, Nat.le_trans hn0 (Nat.le_succ _), by omega, by omega⟩
    rw [List.map_cons, hmap st hst', cv_R, if_pos rfl] at K
    exact K

theorem J_anewarray4 {N idx : Nat} (hN : N ≤ 60000000) (hgn : ∀ k, G.2 (hn h) k = none) (hw : Cond.classLink y.1.cls idx RX5 ∈ jT) (hw2 : Cond.arrayOver (.object RX5) ∈ jT) (hd : decode y.2.1 pc = .ok (.anewarray idx, 3)) (kk : J G d b y Q (pc + 3) loc (vR (some (hn h)) :: st) (nw h (.inr (4, N)))) : J G d (b + (N + 1)) y Q pc loc (vI (N : Int) :: st) h := by
  intro p l e s m args below meth c D cA w0 A B n0 ad0 ad H ls locs cells slots C
  obtain ⟨⟨hx, hb, hml, hr, hts, hown, hnm, hlk⟩, hK, hA, hSF, hP, hD, hS, hO, hG, hst, hlo, hL, had, hn0, hc, hs⟩ := id C
  have hst' := ok_t hst
  have hR : R32 (N : Int) := ok_h hst
  have hcl : (Int32.ofInt (N : Int)).toNatClampNeg = N := by rw [clamp hR (by omega)]; omega
  refine va_newq hx hb hown (hts _ hw) (va_AO.of (hts _ hw2)) hK hP hD hS hA (N' := N) (notneg hR (by omega)) hcl (by omega) (by show _ ≤ B; omega) (by show _ ≤ B; omega) hd ?_
  intro q cA' H1 k1 p1 p2 p3
  have hcA : cA' = cA 4 := by
    obtain ⟨_, _, -, -, -, e1⟩ := (k1.2 5 (cA', .object RX5) rfl).2
    obtain ⟨_, _, -, -, -, e2⟩ := (hK.2 4 (cA 4, .object RX5) rfl).2
    exact Option.some.inj (e1.symm.trans e2)
  subst hcA
  have he1 : ce cA (fun k => if k = hn h then q else ad k) (nw h (.inr (4, N))) (hn h) = .inl (cA 4, N, .inr (.inr (.inr (.inr (fun _ => none))))) := by
    rw [ce_arr (t := 4) (n := N) (by rw [kd_nw, if_pos rfl]), ca_4]
    refine ceQ fun j => ?_
    rw [rf_nw, if_pos rfl]
    rfl
  · skip
    have he2 : ∀ o, o < hn h → ce cA (fun k => if k = hn h then q else ad k) (nw h (.inr (4, N))) o = ce cA ad h o := fun o ho => ce_ad (by rw [kd_nw, if_neg (by omega)]) (by funext j; rw [gi_nw, if_neg (by omega)]) (by funext j; rw [gl_nw, if_neg (by omega)]) (by funext j; rw [rf_nw, if_neg (by omega)]) (fun k r z => by have := hO.2.2 o k r z; (try dsimp only); rw [if_neg (by omega)])
    have hnew := cw_new (cA := cA) (ad := ad) (h := h) (h' := nw h (.inr (4, N))) (q := q) rfl he1 he2
    have hvk : ∀ v, OkV h v → cv w0 (fun k => if k = hn h then q else ad k) v = cv w0 ad v := fun v z => by
      rcases v with i | i | r | u
      · rfl
      · rfl
      · exact congrArg va_rf (map_ad fun k e => by have := z k e; (try dsimp only); rw [if_neg (by omega)])
      · rfl
    have hmap : ∀ l : List AV, (∀ v ∈ l, OkV h v) → l.map (cv w0 (fun k => if k = hn h then q else ad k)) = l.map (cv w0 ad) := fun l z => List.map_congr_left fun v hv => hvk v (z v hv)
    have K := kk p l e s m args below meth c D cA w0 A B n0 ad0 (fun k => if k = hn h then q else ad k) H1 ls locs (cells + 1) (slots + N) ⟨⟨hx, hb, hml, hr, hts, hown, hnm, hlk⟩, hK, hA, hSF, hnew ▸ p1, hnew ▸ p2, p3, hO.nw, hG.nw hO hgn, ok_c (fun k e => by cases e; exact Nat.lt_succ_self _) (fun v z => (hst' v z).to (Nat.le_succ _)), fun v z => (hlo v z).to (Nat.le_succ _), ⟨hL.1, hL.2.1, hL.2.2.1, fun i v z => by rw [hvk v (ok_loc hlo z)]; exact hL.2.2.2 i v z⟩, fun k z => by (try dsimp only); rw [if_neg (by omega)]; exact had k z, Nat.le_trans hn0 (Nat.le_succ _), by omega, by omega⟩
    rw [List.map_cons, hmap st hst', cv_R, if_pos rfl] at K
    exact K

theorem J_new {ci idx : Nat} {q0 : vw_C} (hq : vwCl[ci]? = some q0) (hgn : ∀ k, G.2 (hn h) k = none) (hw : Cond.classLink y.1.cls idx q0.1 ∈ jT) (hw2 : Cond.instantiable q0.1 q0.2.2 ∈ jT) (hw3 : Cond.initialized q0.1 ∈ jT) (hdf : ∀ k, k < q0.2.2 → defaultValue (vwTy ci k) = (match ft ci k with | 0 => .int 0 | 1 => .long 0 | _ => .null)) (hd : decode y.2.1 pc = .ok (.new idx, 3)) (kk : J G d b y Q (pc + 3) loc (vR (some (hn h)) :: st) (nw h (.inl ci))) : J G d (b + (q0.2.2 + 1)) y Q pc loc st h := by
  intro p l e s m args below meth c D cA w0 A B n0 ad0 ad H ls locs cells slots C
  obtain ⟨⟨hx, hb, hml, hr, hts, hown, hnm, hlk⟩, hK, hA, hSF, hP, hD, hS, hO, hG, hst, hlo, hL, had, hn0, hc, hs⟩ := id C
  have hst' := hst
  have hcl := clsOk hq
  refine va_new (ci := ci) (fs := (List.range (nf ci)).map (fun k => fv ad (nw h (.inl ci)) (hn h) ci k)) hx hb hts hcl.1 (vwTy ci) hcl.2.1 hown (hts _ hw) (hts _ hw2) (hts _ hw3) hK hP hD hS hA hq (fun j hj => ?_) (by show _ ≤ B; omega) (by show _ ≤ B; omega) hd ?_
  · have hj' : j < nf ci := by rw [nf_of hq]; exact hj
    rw [hdf j hj]
    unfold vp_V
    rw [List.getD_eq_getElem?_getD, fs_get hj', Option.getD_some]
    unfold fv
    rw [gi_nw, gl_nw, rf_nw, if_pos rfl, if_pos rfl, if_pos rfl]
    generalize ft ci j = z
    match z with
    | 0 => rfl
    | 1 => rfl
    | n + 2 => rfl
  · intro q H1 p1 p2 p3
    have he1 : ce cA (fun k => if k = hn h then q else ad k) (nw h (.inl ci)) (hn h) = .inr (ci, (List.range (nf ci)).map (fun k => fv ad (nw h (.inl ci)) (hn h) ci k)) := by
      rw [ce_obj (ci := ci) (by rw [kd_nw, if_pos rfl])]
      congr 2
      refine List.map_congr_left fun k _ => ?_
      unfold fv
      rw [rf_nw, if_pos rfl]
      rfl
    have he2 : ∀ o, o < hn h → ce cA (fun k => if k = hn h then q else ad k) (nw h (.inl ci)) o = ce cA ad h o := fun o ho => ce_ad (by rw [kd_nw, if_neg (by omega)]) (by funext j; rw [gi_nw, if_neg (by omega)]) (by funext j; rw [gl_nw, if_neg (by omega)]) (by funext j; rw [rf_nw, if_neg (by omega)]) (fun k r z => by have := hO.2.2 o k r z; (try dsimp only); rw [if_neg (by omega)])
    have hnew := cw_new (cA := cA) (ad := ad) (h := h) (h' := nw h (.inl ci)) (q := q) rfl he1 he2
    have hvk : ∀ v, OkV h v → cv w0 (fun k => if k = hn h then q else ad k) v = cv w0 ad v := fun v z => by
      rcases v with i | i | r | u
      · rfl
      · rfl
      · exact congrArg va_rf (map_ad fun k e => by have := z k e; (try dsimp only); rw [if_neg (by omega)])
      · rfl
    have hmap : ∀ l : List AV, (∀ v ∈ l, OkV h v) → l.map (cv w0 (fun k => if k = hn h then q else ad k)) = l.map (cv w0 ad) := fun l z => List.map_congr_left fun v hv => hvk v (z v hv)
    have K := kk p l e s m args below meth c D cA w0 A B n0 ad0 (fun k => if k = hn h then q else ad k) H1 ls locs (cells + 1) (slots + q0.2.2) ⟨⟨hx, hb, hml, hr, hts, hown, hnm, hlk⟩, hK, hA, hSF, hnew ▸ p1, hnew ▸ p2, p3, hO.nw, hG.nw hO hgn, ok_c (fun k e => by cases e; exact Nat.lt_succ_self _) (fun v z => (hst' v z).to (Nat.le_succ _)), fun v z => (hlo v z).to (Nat.le_succ _), ⟨hL.1, hL.2.1, hL.2.2.1, fun i v z => by rw [hvk v (ok_loc hlo z)]; exact hL.2.2.2 i v z⟩, fun k z => by (try dsimp only); rw [if_neg (by omega)]; exact had k z, Nat.le_trans hn0 (Nat.le_succ _), by omega, by omega⟩
    rw [List.map_cons, hmap st hst', cv_R, if_pos rfl] at K
    exact K

theorem csum_le (w0 : WT) (ad : Nat → Nat) (st : List AV) : ((st.map (cv w0 ad)).map fun v => v.category).sum ≤ 2 * st.length := by
  induction st with
  | nil => simp
  | cons v r ih =>
    have : (cv w0 ad v).category ≤ 2 := by rcases lv_cat (cv w0 ad v) with z | z <;> omega
    simp only [List.map_cons, List.sum_cons, List.length_cons]
    omega
theorem J_clone {a n : Nat} (hgn : ∀ k, G.2 (hn h) k = none) (hy : y.1.cls = RJ7) (hk : Kd G h a (.inr (0, n))) (hs8 : st.length ≤ 8) (hd : decode y.2.1 pc = .ok (.invokevirtual 316, 3)) (kk : J G (d + 1) b y Q (pc + 3) loc (vR (some (hn h)) :: st) (cln h a)) : J G (d + 1) (b + (n + 1)) y Q pc loc (vR (some a) :: st) h := by
  intro p l e s m args below meth c D cA w0 A B n0 ad0 ad H ls locs cells slots C
  obtain ⟨⟨hx, hb, hml, hr, hts, hown, hnm, hlk⟩, hK, hA, hSF, hP, hD, hS, hO, hG, hst, hlo, hL, had, hn0, hc, hs⟩ := id C
  have hst' := ok_t hst
  obtain ⟨hk1, hk2⟩ := hk.use hG
  have hnmA : s.vm.findClass "[I" = some (cA 0) := (hK.2 0 (cA 0, .int) rfl).2
  have hown2 := hown
  rw [hy] at hown2
  have hsum := csum_le w0 ad st
  refine va_clone (ad := "[I") (ty := .int) hx hb (hml.trans hL.1.symm) hown2 (hts _ (mem_jT (List.mem_of_getElem? (i := 749) (by decide +kernel)) rfl)) (hts _ (mem_jT (List.mem_of_getElem? (i := 750) (by decide +kernel)) rfl)) (hts _ (mem_jT (List.mem_of_getElem? (i := 751) (by decide +kernel)) rfl)) (hts _ (mem_jT (List.mem_of_getElem? (i := 752) (by decide +kernel)) rfl)) (hts _ (mem_jT (List.mem_of_getElem? (i := 753) (by decide +kernel)) rfl)) (va_Nw.of rfl (hts _ (mem_jT (List.mem_of_getElem? (i := 754) (by decide +kernel)) rfl))) hK hP hD hS hA a 0 (cell_h hk1 hk2) rfl hnmA (fun i v hv => ?_) (by show 1 ≤ d + 1; omega) (by show _ ≤ 64 * (d + 1); omega) (by show _ ≤ B; omega) (by show _ + n ≤ B; omega) hd ?_
  · have hsz : i < (vp_cell (cA 0) (n, ca ad h a 0)).slots.size := (Array.getElem?_eq_some_iff.mp hv).1
    have hi : i < n := by
      have e : (vp_cell (cA 0) (n, ca ad h a 0)).slots.size = n := arrV_size _ _ _
      omega
    have e : (vp_cell (cA 0) (n, ca ad h a 0)).slots[i]? = some (.int (Int32.ofInt (gi h a i))) := arrV_read _ _ hi
    rw [e] at hv
    cases hv
    rfl
  · intro q H1 k1 p1 p2 p3
    have he1 : ce cA (fun k => if k = hn h then q else ad k) (cln h a) (hn h) = .inl (cA 0, n, ca ad h a 0) := by
      rw [ce_arr (t := 0) (n := n) (by rw [kd_cln, if_pos rfl]; exact hk1), ca_0, ca_0]
      refine ceI fun j => ?_
      rw [gi_cln, if_pos rfl]
    have he2 : ∀ o, o < hn h → ce cA (fun k => if k = hn h then q else ad k) (cln h a) o = ce cA ad h o := fun o ho => ce_ad (by rw [kd_cln, if_neg (by omega)]) (by funext j; rw [gi_cln, if_neg (by omega)]) (by funext j; rw [gl_cln, if_neg (by omega)]) (by funext j; rw [rf_cln, if_neg (by omega)]) (fun k r z => by have := hO.2.2 o k r z; (try dsimp only); rw [if_neg (by omega)])
    have hnew := cw_new (cA := cA) (ad := ad) (h := h) (h' := cln h a) (q := q) rfl he1 he2
    have hvk : ∀ v, OkV h v → cv w0 (fun k => if k = hn h then q else ad k) v = cv w0 ad v := fun v z => by
      rcases v with i | i | r | u
      · rfl
      · rfl
      · exact congrArg va_rf (map_ad fun k e => by have := z k e; (try dsimp only); rw [if_neg (by omega)])
      · rfl
    have hmap : ∀ l : List AV, (∀ v ∈ l, OkV h v) → l.map (cv w0 (fun k => if k = hn h then q else ad k)) = l.map (cv w0 ad) := fun l z => List.map_congr_left fun v hv => hvk v (z v hv)
    have K := kk p l e s m args below meth c D cA w0 A B n0 ad0 (fun k => if k = hn h then q else ad k) H1 ls locs (cells + 1) (slots + n) ⟨⟨hx, hb, hml, hr, hts, hown, hnm, hlk⟩, hK, hA, hSF, hnew ▸ p1, hnew ▸ p2, p3, hO.cln, hG.cln hgn, ok_c (fun k e => by cases e; exact Nat.lt_succ_self _) (fun v z => (hst' v z).to (Nat.le_succ _)), fun v z => (hlo v z).to (Nat.le_succ _), ⟨hL.1, hL.2.1, hL.2.2.1, fun i v z => by rw [hvk v (ok_loc hlo z)]; exact hL.2.2.2 i v z⟩, fun k z => by (try dsimp only); rw [if_neg (by omega)]; exact had k z, Nat.le_trans hn0 (Nat.le_succ _), by omega, by omega⟩
    rw [List.map_cons, hmap st hst', cv_R, if_pos rfl] at K
    exact K

theorem J_castA {a n : Nat} (hy : y.1.cls = RJ7) (hk : Kd G h a (.inr (0, n))) (hw : Cond.classLink RJ7 317 "[I" ∈ jT) (hd : decode y.2.1 pc = .ok (.checkcast 317, 3)) (kk : J G d b y Q (pc + 3) loc (vR (some a) :: st) h) : J G d b y Q pc loc (vR (some a) :: st) h := by
  intro p l e s m args below meth c D cA w0 A B n0 ad0 ad H ls locs cells slots C
  obtain ⟨⟨hx, hb, hml, hr, hts, hown, hnm, hlk⟩, hK, hA, hSF, hP, hD, hS, hO, hG, hst, hlo, hL, had, hn0, hc, hs⟩ := id C
  obtain ⟨hk1, hk2⟩ := hk.use hG
  have hnmA : s.vm.findClass "[I" = some (cA 0) := (hK.2 0 (cA 0, .int) rfl).2
  exact va_castA hx hb (hy ▸ hown) (hts _ hw) hP a (cell_h hk1 hk2) hnmA hd (kk p l e s m args below meth c D cA w0 A B n0 ad0 ad H ls locs cells slots C)
theorem J_copy {a na b' nb : Nat} {sp dp n : Int} {idx : Nat} (hw : Cond.methodLink y.1.cls idx arraycopyName ∈ jT) (hka : Kd G h a (.inr (0, na))) (hkb : Kd G h b' (.inr (0, nb))) (h1 : 0 ≤ sp ∧ 0 ≤ dp ∧ 0 ≤ n) (h2 : sp + n ≤ na) (h3 : dp + n ≤ nb) (hs8 : st.length ≤ 8) (hd : decode y.2.1 pc = .ok (.invokestatic idx, 3)) (kk : J G (d + 1) b y Q (pc + 3) loc st (cpy h a sp b' dp n)) : J G (d + 1) b y Q pc loc (vI n :: vI dp :: vR (some b') :: vI sp :: vR (some a) :: st) h := by
  intro p l e s m args below meth c D cA w0 A B n0 ad0 ad H ls locs cells slots C
  obtain ⟨⟨hx, hb, hml, hr, hts, hown, hnm, hlk⟩, hK, hA, hSF, hP, hD, hS, hO, hG, hst, hlo, hL, had, hn0, hc, hs⟩ := id C
  obtain ⟨ha1, ha2⟩ := hka.use hG
  obtain ⟨hb1, hb2⟩ := hkb.use hG
  have hRn : R32 n := ok_h hst
  have hRd : R32 dp := ok_h (ok_t hst)
  have hRs : R32 sp := ok_h (ok_t (ok_t (ok_t hst)))
  have hst' := ok_t (ok_t (ok_t (ok_t (ok_t hst))))
  have e1 := clamp hRn h1.2.2
  have e2 := clamp hRd h1.2.1
  have e3 := clamp hRs h1.1
  have hsum := csum_le w0 ad st
  have hnw : nativeFrameWords "java/lang/System" "arraycopy" 5 + 11 ≤ 40 := by decide +kernel
  have hnew : (cw cA ad h).set b' (ad b', .inl (cA 0, nb, .inl (va_cpy (fun j : Nat => Int32.ofInt (gi h a j)) (fun j : Nat => Int32.ofInt (gi h b' j)) (Int32.ofInt sp).toNatClampNeg (Int32.ofInt dp).toNatClampNeg (Int32.ofInt n).toNatClampNeg))) = cw cA ad (cpy h a sp b' dp n) := by
    refine cw_set rfl hb2 ?_ (fun a' ha hao => ?_)
    · rw [ce_arr (t := 0) (n := nb) (by exact hb1), ca_0]
      refine ceI fun j => ?_
      unfold va_cpy
      rw [e1, e2, e3, gi_cpy]
      by_cases hj : dp.toNat ≤ j ∧ j < dp.toNat + n.toNat
      · rw [if_pos hj, if_pos (by omega)]
        congr 2
        omega
      · rw [if_neg hj, if_neg (by omega)]
    · refine ce_ad rfl ?_ rfl rfl (fun _ _ _ => rfl)
      funext j
      rw [gi_cpy, if_neg (fun q => hao q.1)]
  refine va_copyi (ty := .int) hx hb (hml.trans hL.1.symm) hown (hts _ hw) (hts _ (mem_jT (List.mem_of_getElem? (i := 759) (by decide +kernel)) rfl)) (hts _ (mem_jT (List.mem_of_getElem? (i := 758) (by decide +kernel)) rfl)) (hts _ (mem_jT (List.mem_of_getElem? (i := 141) (by decide +kernel)) rfl)) hK hP hD hS a b' 0 0 (cell_h ha1 ha2) (cell_h hb1 hb2) rfl rfl rfl (notneg hRs h1.1) (notneg hRd h1.2.1) (notneg hRn h1.2.2) (by omega) (by omega) (fun i _ => rfl) (by show 1 ≤ d + 1; omega) (by show _ ≤ 64 * (d + 1); omega) hd ?_
  intro H1 locs1 p1 p2 p3
  exact kk p l e s m args below meth c D cA w0 A B n0 ad0 ad H1 ls locs1 cells slots ⟨⟨hx, hb, hml, hr, hts, hown, hnm, hlk⟩, hK, hA, hSF, hnew ▸ p1, hnew ▸ p2, p3, hO.cpy, hG, hst', hlo, hL, had, hn0, hc, hs⟩
theorem J_objinit {o idx : Nat} (hw : Cond.methodLink y.1.cls idx Lib.objectInit ∈ jT) (hs8 : st.length ≤ 8) (hd : decode y.2.1 pc = .ok (.invokespecial idx, 3)) (kk : J G (d + 1) b y Q (pc + 3) loc st h) : J G (d + 1) b y Q pc loc (vR (some o) :: st) h := by
  intro p l e s m args below meth c D cA w0 A B n0 ad0 ad H ls locs cells slots C
  obtain ⟨⟨hx, hb, hml, hr, hts, hown, hnm, hlk⟩, hK, hA, hSF, hP, hD, hS, hO, hG, hst, hlo, hL, had, hn0, hc, hs⟩ := id C
  have hsum := csum_le w0 ad st
  exact W.objInit hx hb hown (hts _ hw) (hts _ (mem_jT (List.mem_of_getElem? (i := 149) (by decide +kernel)) rfl)) (hts _ (mem_jT (List.mem_of_getElem? (i := 150) (by decide +kernel)) rfl)) rfl (hL.1.trans hml.symm) rfl hd (by show 1 ≤ d + 1; omega) (by show 2 * 0 + _ + 12 ≤ 64 * (d + 1); omega) (kk p l e s m args below meth c D cA w0 A B n0 ad0 ad H ls locs cells slots (CJ_st C (ok_t hst)))

theorem J_ireturn {x : Int} (hrt : y.2.2.2 = some .int) (hd : decode y.2.1 pc = .ok (.ireturn, 1)) (k : Q (some (vI x)) h) : J G d b y Q pc loc [vI x] h := by
  intro p l e s m args below meth c D cA w0 A B n0 ad0 ad H ls locs cells slots C
  obtain ⟨⟨hx, hb, hml, hr, hts, hown, hnm, hlk⟩, hK, hA, hSF, hP, hD, hS, hO, hG, hst, hlo, hL, had, hn0, hc, hs⟩ := id C
  have hq : ∀ t : State, t.heap = H → s.WarmedH t.vm → QJ G cA D w0 A n0 ad0 Q args s (.returned (((some (vI x)) : Option AV).map (cv w0 ad))) t := fun t ht _ => ⟨(some (vI x)), h, ad, rfl, had, hn0, ht ▸ hP, hD, hO, hG, (fun v e => by cases e; exact ok_h hst), hS.F ht, k⟩
  refine W.widen (k := B) (n := B) (by omega) (by omega) ?_
  exact W.iret hx hb (hr.trans hrt) hq (fun q z => hS.2.2 q z) hd hlk

theorem J_zreturn {x : Int} (hrt : y.2.2.2 = some .boolean ∧ (x = 0 ∨ x = 1)) (hd : decode y.2.1 pc = .ok (.ireturn, 1)) (k : Q (some (vI x)) h) : J G d b y Q pc loc [vI x] h := by
  intro p l e s m args below meth c D cA w0 A B n0 ad0 ad H ls locs cells slots C
  obtain ⟨⟨hx, hb, hml, hr, hts, hown, hnm, hlk⟩, hK, hA, hSF, hP, hD, hS, hO, hG, hst, hlo, hL, had, hn0, hc, hs⟩ := id C
  have hq : ∀ t : State, t.heap = H → s.WarmedH t.vm → QJ G cA D w0 A n0 ad0 Q args s (.returned (((some (vI x)) : Option AV).map (cv w0 ad))) t := fun t ht _ => ⟨(some (vI x)), h, ad, rfl, had, hn0, ht ▸ hP, hD, hO, hG, (fun v e => by cases e; exact ok_h hst), hS.F ht, k⟩
  refine W.widen (k := B) (n := B) (by omega) (by omega) ?_
  exact W.zret hx hb (hr.trans hrt.1) (by rcases hrt.2 with z | z <;> subst z <;> rfl) hq (fun q z => hS.2.2 q z) hd hlk

theorem J_lreturn {x : Int} (hrt : y.2.2.2 = some .long) (hd : decode y.2.1 pc = .ok (.lreturn, 1)) (k : Q (some (vL x)) h) : J G d b y Q pc loc [vL x] h := by
  intro p l e s m args below meth c D cA w0 A B n0 ad0 ad H ls locs cells slots C
  obtain ⟨⟨hx, hb, hml, hr, hts, hown, hnm, hlk⟩, hK, hA, hSF, hP, hD, hS, hO, hG, hst, hlo, hL, had, hn0, hc, hs⟩ := id C
  have hq : ∀ t : State, t.heap = H → s.WarmedH t.vm → QJ G cA D w0 A n0 ad0 Q args s (.returned (((some (vL x)) : Option AV).map (cv w0 ad))) t := fun t ht _ => ⟨(some (vL x)), h, ad, rfl, had, hn0, ht ▸ hP, hD, hO, hG, (fun v e => by cases e; exact ok_h hst), hS.F ht, k⟩
  refine W.widen (k := B) (n := B) (by omega) (by omega) ?_
  exact W.lret hx hb (hr.trans hrt) hq (fun q z => hS.2.2 q z) hd hlk

theorem J_return (hrt : y.2.2.2 = none) (hd : decode y.2.1 pc = .ok (.return_, 1)) (k : Q none h) : J G d b y Q pc loc [] h := by
  intro p l e s m args below meth c D cA w0 A B n0 ad0 ad H ls locs cells slots C
  obtain ⟨⟨hx, hb, hml, hr, hts, hown, hnm, hlk⟩, hK, hA, hSF, hP, hD, hS, hO, hG, hst, hlo, hL, had, hn0, hc, hs⟩ := id C
  have hq : ∀ t : State, t.heap = H → s.WarmedH t.vm → QJ G cA D w0 A n0 ad0 Q args s (.returned ((none : Option AV).map (cv w0 ad))) t := fun t ht _ => ⟨none, h, ad, rfl, had, hn0, ht ▸ hP, hD, hO, hG, (fun v e => by cases e), hS.F ht, k⟩
  refine W.widen (k := B) (n := B) (by omega) (by omega) ?_
  exact W.vret hx hb (hr.trans hrt) hq (fun q z => hS.2.2 q z) hd hlk

theorem J_areturn {x : Option Nat} (hrt : ∃ t, y.2.2.2 = some t ∧ ((∃ n, t = .object n) ∨ ∃ u, t = .array u)) (hd : decode y.2.1 pc = .ok (.areturn, 1)) (k : Q (some (vR x)) h) : J G d b y Q pc loc [vR x] h := by
  intro p l e s m args below meth c D cA w0 A B n0 ad0 ad H ls locs cells slots C
  obtain ⟨⟨hx, hb, hml, hr, hts, hown, hnm, hlk⟩, hK, hA, hSF, hP, hD, hS, hO, hG, hst, hlo, hL, had, hn0, hc, hs⟩ := id C
  have hq : ∀ t : State, t.heap = H → s.WarmedH t.vm → QJ G cA D w0 A n0 ad0 Q args s (.returned (((some (vR x)) : Option AV).map (cv w0 ad))) t := fun t ht _ => ⟨(some (vR x)), h, ad, rfl, had, hn0, ht ▸ hP, hD, hO, hG, (fun v e => by cases e; exact ok_h hst), hS.F ht, k⟩
  refine W.widen (k := B) (n := B) (by omega) (by omega) ?_
  exact (by obtain ⟨t, ht1, ht2⟩ := hrt; exact W.aret hx hb (hr.trans ht1) ht2 (va_rf_or _) hq (fun q z => hS.2.2 q z) hd hlk)

end ROWC
