/-! ROWS OF J: fields, arrays, what is made, ends -/
theorem inX0 : ∀ w ∈ u_ws RX0 TX0 19, w ∈ jT := fun w h => mem_jT (goodIn_p (big := lw_tbl) (u_ws RX0 TX0 19) [] (by decide +kernel) (by decide +kernel) w h).1 (List.all_eq_true.mp (by decide +kernel : (u_ws RX0 TX0 19).all okW = true) w h)
theorem inX1 : ∀ w ∈ u_ws RX1 TX1 2, w ∈ jT := fun w h => mem_jT (goodIn_p (big := lw_tbl) (u_ws RX1 TX1 2) [] (by decide +kernel) (by decide +kernel) w h).1 (List.all_eq_true.mp (by decide +kernel : (u_ws RX1 TX1 2).all okW = true) w h)
theorem inX2 : ∀ w ∈ u_ws RX2 TX2 6, w ∈ jT := fun w h => mem_jT (goodIn_p (big := lw_tbl) (u_ws RX2 TX2 6) [] (by decide +kernel) (by decide +kernel) w h).1 (List.all_eq_true.mp (by decide +kernel : (u_ws RX2 TX2 6).all okW = true) w h)
theorem inX3 : ∀ w ∈ u_ws RX3 TX3 10, w ∈ jT := fun w h => mem_jT (goodIn_p (big := lw_tbl) (u_ws RX3 TX3 10) [] (by decide +kernel) (by decide +kernel) w h).1 (List.all_eq_true.mp (by decide +kernel : (u_ws RX3 TX3 10).all okW = true) w h)
theorem inX4 : ∀ w ∈ u_ws RX4 TX4 2, w ∈ jT := fun w h => mem_jT (goodIn_p (big := lw_tbl) (u_ws RX4 TX4 2) [] (by decide +kernel) (by decide +kernel) w h).1 (List.all_eq_true.mp (by decide +kernel : (u_ws RX4 TX4 2).all okW = true) w h)
theorem inX5 : ∀ w ∈ u_ws RX5 TX5 4, w ∈ jT := fun w h => mem_jT (goodIn_p (big := lw_tbl) (u_ws RX5 TX5 4) [] (by decide +kernel) (by decide +kernel) w h).1 (List.all_eq_true.mp (by decide +kernel : (u_ws RX5 TX5 4).all okW = true) w h)
theorem inX6 : ∀ w ∈ u_ws RX6 TX6 2, w ∈ jT := fun w h => mem_jT (goodIn_p (big := lw_tbl) (u_ws RX6 TX6 2) [] (by decide +kernel) (by decide +kernel) w h).1 (List.all_eq_true.mp (by decide +kernel : (u_ws RX6 TX6 2).all okW = true) w h)
theorem inX7 : ∀ w ∈ u_ws RX7 TX7 17, w ∈ jT := fun w h => mem_jT (goodIn_p (big := lw_tbl) (u_ws RX7 TX7 17) [] (by decide +kernel) (by decide +kernel) w h).1 (List.all_eq_true.mp (by decide +kernel : (u_ws RX7 TX7 17).all okW = true) w h)
theorem inX8 : ∀ w ∈ u_ws RX8 TX8 58, w ∈ jT := fun w h => mem_jT (goodIn_p (big := lw_tbl) (u_ws RX8 TX8 58) [] (by decide +kernel) (by decide +kernel) w h).1 (List.all_eq_true.mp (by decide +kernel : (u_ws RX8 TX8 58).all okW = true) w h)
theorem clsOk {ci : Nat} {q : vw_C} (hq : vwCl[ci]? = some q) : (∀ w ∈ u_ws q.1 q.2.1 q.2.2, w ∈ jT) ∧ (∀ k, k < q.2.2 → parseFieldDescriptor (q.2.1 k).2.2.1 = some (vwTy ci k)) ∧ (∀ a, a < q.2.2 → ∀ b, b < q.2.2 → a ≠ b → (q.2.1 a).2.1 ≠ (q.2.1 b).2.1) := by
  match ci, hq with
  | 0, hq => cases hq; exact ⟨inX0, tyX0_ok, nmX0⟩
  | 1, hq => cases hq; exact ⟨inX1, tyX1_ok, nmX1⟩
  | 2, hq => cases hq; exact ⟨inX2, tyX2_ok, nmX2⟩
  | 3, hq => cases hq; exact ⟨inX3, tyX3_ok, nmX3⟩
  | 4, hq => cases hq; exact ⟨inX4, tyX4_ok, nmX4⟩
  | 5, hq => cases hq; exact ⟨inX5, tyX5_ok, nmX5⟩
  | 6, hq => cases hq; exact ⟨inX6, tyX6_ok, nmX6⟩
  | 7, hq => cases hq; exact ⟨inX7, tyX7_ok, nmX7⟩
  | 8, hq => cases hq; exact ⟨inX8, tyX8_ok, nmX8⟩
  | n + 9, hq => simp at hq
theorem nf_of {ci : Nat} {q : vw_C} (hq : vwCl[ci]? = some q) : nf ci = q.2.2 := by unfold nf; rw [hq]; rfl
def FL (own : String) (idx ci k : Nat) (t : FieldType) (fin : Bool) : Prop := ∃ q : vw_C, vwCl[ci]? = some q ∧ k < q.2.2 ∧ vwTy ci k = t ∧ (q.2.1 k).2.2.2 = fin ∧ (q.2.1 k).1 = q.1 ∧ (Cond.fieldLink own idx q.1 (q.2.1 k).2.1 (q.2.1 k).2.2.1 ∈ jT ∨ ∃ host, Cond.fieldLinkNest own idx q.1 (q.2.1 k).2.1 (q.2.1 k).2.2.1 host ∈ jT)
theorem gi_si (h : AH) (a : Nat) (i v : Int) (o : Nat) (k : Int) : gi (si h a i v) o k = if o = a ∧ k = i then v else gi h o k := rfl
theorem gl_sl (h : AH) (a : Nat) (i v : Int) (o : Nat) (k : Int) : gl (sl h a i v) o k = if o = a ∧ k = i then v else gl h o k := rfl
theorem rf_sr (h : AH) (a : Nat) (i : Int) (v : Option Nat) (o : Nat) (k : Int) : rf (sr h a i v) o k = if o = a ∧ k = i then v else rf h o k := rfl
theorem gi_sl (h : AH) (a : Nat) (i v : Int) : gi (sl h a i v) = gi h := rfl
theorem gi_sr (h : AH) (a : Nat) (i : Int) (v : Option Nat) : gi (sr h a i v) = gi h := rfl
theorem gl_si (h : AH) (a : Nat) (i v : Int) : gl (si h a i v) = gl h := rfl
theorem gl_sr (h : AH) (a : Nat) (i : Int) (v : Option Nat) : gl (sr h a i v) = gl h := rfl
theorem rf_si (h : AH) (a : Nat) (i v : Int) : rf (si h a i v) = rf h := rfl
theorem rf_sl (h : AH) (a : Nat) (i v : Int) : rf (sl h a i v) = rf h := rfl
theorem kd_si (h : AH) (a : Nat) (i v : Int) : kd (si h a i v) = kd h := rfl
theorem kd_sl (h : AH) (a : Nat) (i v : Int) : kd (sl h a i v) = kd h := rfl
theorem kd_sr (h : AH) (a : Nat) (i : Int) (v : Option Nat) : kd (sr h a i v) = kd h := rfl
theorem hn_si (h : AH) (a : Nat) (i v : Int) : hn (si h a i v) = hn h := rfl
theorem hn_sl (h : AH) (a : Nat) (i v : Int) : hn (sl h a i v) = hn h := rfl
theorem hn_sr (h : AH) (a : Nat) (i : Int) (v : Option Nat) : hn (sr h a i v) = hn h := rfl
theorem gi_cpy (h : AH) (a : Nat) (sp : Int) (b : Nat) (dp n : Int) (o : Nat) (k : Int) : gi (cpy h a sp b dp n) o k = if o = b ∧ dp ≤ k ∧ k < dp + n then gi h a (sp + (k - dp)) else gi h o k := rfl
theorem gl_cpy (h : AH) (a : Nat) (sp : Int) (b : Nat) (dp n : Int) : gl (cpy h a sp b dp n) = gl h := rfl
theorem rf_cpy (h : AH) (a : Nat) (sp : Int) (b : Nat) (dp n : Int) : rf (cpy h a sp b dp n) = rf h := rfl
theorem kd_cpy (h : AH) (a : Nat) (sp : Int) (b : Nat) (dp n : Int) : kd (cpy h a sp b dp n) = kd h := rfl
theorem hn_cpy (h : AH) (a : Nat) (sp : Int) (b : Nat) (dp n : Int) : hn (cpy h a sp b dp n) = hn h := rfl
theorem hn_nw (h : AH) (t : AK) : hn (nw h t) = hn h + 1 := rfl
theorem kd_nw (h : AH) (t : AK) (o : Nat) : kd (nw h t) o = if o = hn h then t else kd h o := rfl
theorem gi_nw (h : AH) (t : AK) (o : Nat) (k : Int) : gi (nw h t) o k = if o = hn h then 0 else gi h o k := rfl
theorem gl_nw (h : AH) (t : AK) (o : Nat) (k : Int) : gl (nw h t) o k = if o = hn h then 0 else gl h o k := rfl
theorem rf_nw (h : AH) (t : AK) (o : Nat) (k : Int) : rf (nw h t) o k = if o = hn h then none else rf h o k := rfl
theorem hn_cln (h : AH) (a : Nat) : hn (cln h a) = hn h + 1 := rfl
theorem kd_cln (h : AH) (a o : Nat) : kd (cln h a) o = if o = hn h then kd h a else kd h o := rfl
theorem gi_cln (h : AH) (a o : Nat) (k : Int) : gi (cln h a) o k = if o = hn h then gi h a k else gi h o k := rfl
theorem gl_cln (h : AH) (a o : Nat) (k : Int) : gl (cln h a) o k = if o = hn h then 0 else gl h o k := rfl
theorem rf_cln (h : AH) (a o : Nat) (k : Int) : rf (cln h a) o k = if o = hn h then none else rf h o k := rfl
theorem OkV.to {h h' : AH} {v : AV} (hh : hn h ≤ hn h') (k : OkV h v) : OkV h' v := by
  rcases v with i | i | r | u
  · exact k
  · exact k
  · exact fun j e => Nat.lt_of_lt_of_le (k j e) hh
  · trivial
theorem OkH.si {h : AH} (k : OkH h) {a : Nat} {i v : Int} (hv : R32 v) : OkH (si h a i v) := by
  refine ⟨fun o j => ?_, k.2.1, k.2.2⟩
  rw [gi_si]
  split
  · exact hv
  · exact k.1 o j
theorem OkH.sl {h : AH} (k : OkH h) {a : Nat} {i v : Int} (hv : R64 v) : OkH (sl h a i v) := by
  refine ⟨k.1, fun o j => ?_, k.2.2⟩
  rw [gl_sl]
  split
  · exact hv
  · exact k.2.1 o j
theorem OkH.sr {h : AH} (k : OkH h) {a : Nat} {i : Int} {v : Option Nat} (hv : ∀ r, v = some r → r < hn h) : OkH (sr h a i v) := by
  refine ⟨k.1, k.2.1, fun o j r => ?_⟩
  rw [rf_sr]
  split
  · exact hv r
  · exact k.2.2 o j r
theorem OkH.cpy {h : AH} (k : OkH h) {a b : Nat} {sp dp n : Int} : OkH (cpy h a sp b dp n) := by
  refine ⟨fun o j => ?_, k.2.1, k.2.2⟩
  rw [gi_cpy]
  split
  · exact k.1 _ _
  · exact k.1 o j
theorem OkH.nw {h : AH} (k : OkH h) {t : AK} : OkH (nw h t) := by
  refine ⟨fun o j => ?_, fun o j => ?_, fun o j r => ?_⟩
  · rw [gi_nw]; split
    · exact r32_0
    · exact k.1 o j
  · rw [gl_nw]; split
    · decide
    · exact k.2.1 o j
  · rw [rf_nw, hn_nw]; split
    · intro q; cases q
    · intro q; have := k.2.2 o j r q; omega
theorem OkH.cln {h : AH} (k : OkH h) {a : Nat} : OkH (cln h a) := by
  refine ⟨fun o j => ?_, fun o j => ?_, fun o j r => ?_⟩
  · rw [gi_cln]; split
    · exact k.1 a j
    · exact k.1 o j
  · rw [gl_cln]; split
    · decide
    · exact k.2.1 o j
  · rw [rf_cln, hn_cln]; split
    · intro q; cases q
    · intro q; have := k.2.2 o j r q; omega
theorem Gd.nw {G : GT} {h : AH} (g : Gd G h) {t : AK} (ok : OkH h) (hf : ∀ k, G.2 (hn h) k = none) : Gd G (nw h t) := by
  refine ⟨fun o t' e => ?_, fun o k r e => ?_⟩
  · obtain ⟨h1, h2⟩ := g.1 o t' e
    rw [kd_nw, hn_nw, if_neg (by omega)]
    exact ⟨h1, by omega⟩
  · rw [rf_nw]
    split
    · rename_i q
      rw [q, hf k] at e
      cases e
    · exact g.2 o k r e
theorem Gd.cln {G : GT} {h : AH} (g : Gd G h) {a : Nat} (hf : ∀ k, G.2 (hn h) k = none) : Gd G (cln h a) := by
  refine ⟨fun o t' e => ?_, fun o k r e => ?_⟩
  · obtain ⟨h1, h2⟩ := g.1 o t' e
    rw [kd_cln, hn_cln, if_neg (by omega)]
    exact ⟨h1, by omega⟩
  · rw [rf_cln]
    split
    · rename_i q
      rw [q, hf k] at e
      cases e
    · exact g.2 o k r e
theorem Gd.sr {G : GT} {h : AH} (g : Gd G h) {a : Nat} {i : Int} {v : Option Nat} (hf : G.2 a i = none ∨ G.2 a i = v) : Gd G (sr h a i v) := by
  refine ⟨g.1, fun o k r e => ?_⟩
  rw [rf_sr]
  split
  · rename_i q
    rw [q.1, q.2] at e
    rcases hf with f | f
    · rw [f] at e; cases e
    · rw [← f]; exact e
  · exact g.2 o k r e
theorem fs_set {ad : Nat → Nat} {h h' : AH} {o ci k : Nat} {V : Value} (e1 : fv ad h' o ci k = V) (e2 : ∀ j, j ≠ k → fv ad h' o ci j = fv ad h o ci j) : ((List.range (nf ci)).map (fun j => fv ad h o ci j)).set k V = (List.range (nf ci)).map (fun j => fv ad h' o ci j) := by
  refine List.ext_getElem? fun j => ?_
  by_cases hj : j < nf ci
  · rw [fs_get hj]
    by_cases hjk : j = k
    · subst hjk
      rw [List.getElem?_set_self (by simp [hj]), e1]
    · rw [List.getElem?_set_ne (fun q => hjk q.symm), fs_get hj, e2 j hjk]
  · rw [List.getElem?_eq_none (by simp; omega), List.getElem?_eq_none (by simp; omega)]
theorem clamp {x : Int} (h : R32 x) (h0 : 0 ≤ x) : (Int32.ofInt x).toNatClampNeg = x.toNat := Int32.toNatClampNeg_ofInt_of_le (by omega) (by omega)
theorem vin {x : Int} {n : Nat} (hR : R32 x) (h : 0 ≤ x ∧ x < n) : vp_in (Int32.ofInt x) n := by
  rw [vp_in_iff, z32 hR]
  exact h
theorem notneg {x : Int} (hR : R32 x) (h : 0 ≤ x) : ¬ Int32.ofInt x < 0 := by
  rw [i32_0, i32_lt hR r32_0]
  omega
theorem ca_ext {ad : Nat → Nat} {h h' : AH} {o t : Nat} (h1 : ∀ j : Nat, gi h' o j = gi h o j) (h2 : ∀ j : Nat, gl h' o j = gl h o j) (h3 : ∀ j : Nat, rf h' o j = rf h o j) : ca ad h' o t = ca ad h o t := by
  unfold ca
  simp only [h1, h2, h3]
section ROWB
variable {G : GT} {d b : Nat} {y : Mth} {Q : Option AV → AH → Prop} {pc : Nat} {loc loc' : List (Option AV)} {st : List AV} {h : AH}

theorem J_getI {o idx ci k : Nat} {t : FieldType} {fin : Bool} (fl : FL y.1.cls idx ci k t fin) (ht : ftc t = 0) (hk : Kd G h o (.inl ci)) (hd : decode y.2.1 pc = .ok (.getfield idx, 3)) (kk : J G d b y Q (pc + 3) loc (vI (gi h o k) :: st) h) : J G d b y Q pc loc (vR (some o) :: st) h := by
  intro p l e s m args below meth c D cA w0 A B n0 ad0 ad H ls locs cells slots C
  obtain ⟨⟨hx, hb, hml, hr, hts, hown, hnm, hlk⟩, hK, hA, hSF, hP, hD, hS, hO, hG, hst, hlo, hL, had, hn0, hc, hs⟩ := id C
  obtain ⟨hk1, hk2⟩ := hk.use hG
  obtain ⟨q, hq, hkq, hty, hfin, hsm, hlink⟩ := fl
  have he : (cw cA ad h)[o]? = some (ad o, .inr (ci, (List.range (nf ci)).map (fun k => fv ad h o ci k))) := by rw [cw_get hk2, ce_obj hk1]
  have hv : ((List.range (nf ci)).map (fun k => fv ad h o ci k))[k]? = some (.int (Int32.ofInt (gi h o k))) := by
    rw [fs_get (by rw [nf_of hq]; exact hkq)]
    simp only [fv, ft, hty, ht]
  have K := kk p l e s m args below meth c D cA w0 A B n0 ad0 ad H ls locs cells slots (CJ_st C (ok_c (hO.1 o k) (ok_t hst)))
  rcases hlink with hw | ⟨host, hw⟩
  · exact va_get hx hb hts (clsOk hq).1 hown hK hP o he hq k hkq (hts _ hw) (fun x e => hsm ▸ e) hv hd K
  · exact va_getN hx hb hts (clsOk hq).1 hown hK hP o he hq k hkq (hts _ hw) (fun x e => hsm ▸ e) hv hd K

theorem J_getL {o idx ci k : Nat} {t : FieldType} {fin : Bool} (fl : FL y.1.cls idx ci k t fin) (ht : ftc t = 1) (hk : Kd G h o (.inl ci)) (hd : decode y.2.1 pc = .ok (.getfield idx, 3)) (kk : J G d b y Q (pc + 3) loc (vL (gl h o k) :: st) h) : J G d b y Q pc loc (vR (some o) :: st) h := by
  intro p l e s m args below meth c D cA w0 A B n0 ad0 ad H ls locs cells slots C
  obtain ⟨⟨hx, hb, hml, hr, hts, hown, hnm, hlk⟩, hK, hA, hSF, hP, hD, hS, hO, hG, hst, hlo, hL, had, hn0, hc, hs⟩ := id C
  obtain ⟨hk1, hk2⟩ := hk.use hG
  obtain ⟨q, hq, hkq, hty, hfin, hsm, hlink⟩ := fl
  have he : (cw cA ad h)[o]? = some (ad o, .inr (ci, (List.range (nf ci)).map (fun k => fv ad h o ci k))) := by rw [cw_get hk2, ce_obj hk1]
  have hv : ((List.range (nf ci)).map (fun k => fv ad h o ci k))[k]? = some (.long (Int64.ofInt (gl h o k))) := by
    rw [fs_get (by rw [nf_of hq]; exact hkq)]
    simp only [fv, ft, hty, ht]
  have K := kk p l e s m args below meth c D cA w0 A B n0 ad0 ad H ls locs cells slots (CJ_st C (ok_c (hO.2.1 o k) (ok_t hst)))
  rcases hlink with hw | ⟨host, hw⟩
  · exact va_get hx hb hts (clsOk hq).1 hown hK hP o he hq k hkq (hts _ hw) (fun x e => hsm ▸ e) hv hd K
  · exact va_getN hx hb hts (clsOk hq).1 hown hK hP o he hq k hkq (hts _ hw) (fun x e => hsm ▸ e) hv hd K

theorem J_getR {o idx ci k : Nat} {t : FieldType} {fin : Bool} (fl : FL y.1.cls idx ci k t fin) (ht : ftc t = 2) (hk : Kd G h o (.inl ci)) (hd : decode y.2.1 pc = .ok (.getfield idx, 3)) (kk : J G d b y Q (pc + 3) loc (vR (rf h o k) :: st) h) : J G d b y Q pc loc (vR (some o) :: st) h := by
  intro p l e s m args below meth c D cA w0 A B n0 ad0 ad H ls locs cells slots C
  obtain ⟨⟨hx, hb, hml, hr, hts, hown, hnm, hlk⟩, hK, hA, hSF, hP, hD, hS, hO, hG, hst, hlo, hL, had, hn0, hc, hs⟩ := id C
  obtain ⟨hk1, hk2⟩ := hk.use hG
  obtain ⟨q, hq, hkq, hty, hfin, hsm, hlink⟩ := fl
  have he : (cw cA ad h)[o]? = some (ad o, .inr (ci, (List.range (nf ci)).map (fun k => fv ad h o ci k))) := by rw [cw_get hk2, ce_obj hk1]
  have hv : ((List.range (nf ci)).map (fun k => fv ad h o ci k))[k]? = some (va_rf ((rf h o k).map ad)) := by
    rw [fs_get (by rw [nf_of hq]; exact hkq)]
    simp only [fv, ft, hty, ht]
  have K := kk p l e s m args below meth c D cA w0 A B n0 ad0 ad H ls locs cells slots (CJ_st C (ok_c (fun r e => hO.2.2 o k r e) (ok_t hst)))
  rcases hlink with hw | ⟨host, hw⟩
  · exact va_get hx hb hts (clsOk hq).1 hown hK hP o he hq k hkq (hts _ hw) (fun x e => hsm ▸ e) hv hd K
  · exact va_getN hx hb hts (clsOk hq).1 hown hK hP o he hq k hkq (hts _ hw) (fun x e => hsm ▸ e) hv hd K

theorem J_getS {o idx ci k r : Nat} {t : FieldType} {fin : Bool} (fl : FL y.1.cls idx ci k t fin) (ht : ftc t = 2) (hk : Kd G h o (.inl ci)) (hg : G.2 o k = some r) (hd : decode y.2.1 pc = .ok (.getfield idx, 3)) (kk : J G d b y Q (pc + 3) loc (vR (some r) :: st) h) : J G d b y Q pc loc (vR (some o) :: st) h := by
  intro p l e s m args below meth c D cA w0 A B n0 ad0 ad H ls locs cells slots C
  obtain ⟨⟨hx, hb, hml, hr, hts, hown, hnm, hlk⟩, hK, hA, hSF, hP, hD, hS, hO, hG, hst, hlo, hL, had, hn0, hc, hs⟩ := id C
  obtain ⟨hk1, hk2⟩ := hk.use hG
  obtain ⟨q, hq, hkq, hty, hfin, hsm, hlink⟩ := fl
  have he : (cw cA ad h)[o]? = some (ad o, .inr (ci, (List.range (nf ci)).map (fun k => fv ad h o ci k))) := by rw [cw_get hk2, ce_obj hk1]
  have hv : ((List.range (nf ci)).map (fun k => fv ad h o ci k))[k]? = some (.ref (ad r)) := by
    rw [fs_get (by rw [nf_of hq]; exact hkq)]
    simp only [fv, ft, hty, ht, hG.2 o k r hg]; rfl
  have K := kk p l e s m args below meth c D cA w0 A B n0 ad0 ad H ls locs cells slots (CJ_st C (ok_c (fun j e => by cases e; exact hO.2.2 o k r (hG.2 o k r hg)) (ok_t hst)))
  rcases hlink with hw | ⟨host, hw⟩
  · exact va_get hx hb hts (clsOk hq).1 hown hK hP o he hq k hkq (hts _ hw) (fun x e => hsm ▸ e) hv hd K
  · exact va_getN hx hb hts (clsOk hq).1 hown hK hP o he hq k hkq (hts _ hw) (fun x e => hsm ▸ e) hv hd K

theorem J_putI {o idx ci k : Nat} {x : Int} {t : FieldType} (fl : FL y.1.cls idx ci k t false) (ht : t = .int) (hk : Kd G h o (.inl ci)) (hd : decode y.2.1 pc = .ok (.putfield idx, 3)) (kk : J G d b y Q (pc + 3) loc st (si h o k x)) : J G d b y Q pc loc (vI x :: vR (some o) :: st) h := by
  intro p l e s m args below meth c D cA w0 A B n0 ad0 ad H ls locs cells slots C
  obtain ⟨⟨hx, hb, hml, hr, hts, hown, hnm, hlk⟩, hK, hA, hSF, hP, hD, hS, hO, hG, hst, hlo, hL, had, hn0, hc, hs⟩ := id C
  obtain ⟨hk1, hk2⟩ := hk.use hG
  obtain ⟨q, hq, hkq, hty, hfin, hsm, hlink⟩ := fl
  have he : (cw cA ad h)[o]? = some (ad o, .inr (ci, (List.range (nf ci)).map (fun k => fv ad h o ci k))) := by rw [cw_get hk2, ce_obj hk1]
  have hcl := clsOk hq
  have hlen : k < ((List.range (nf ci)).map (fun k => fv ad h o ci k)).length := by simp; rw [nf_of hq]; exact hkq
  have hv := ok_h hst
  have hnew : (cw cA ad h).set o (ad o, .inr (ci, ((List.range (nf ci)).map (fun k => fv ad h o ci k)).set k (.int (Int32.ofInt x)))) = cw cA ad (si h o k x) := by
    refine cw_set rfl hk2 ?_ (fun a ha hao => ?_)
    · rw [ce_obj (ci := ci) (by exact hk1)]
      congr 2
      refine (fs_set ?_ ?_).symm
      · simp only [fv, ft, hty, ht, ftc, gi_si]; simp
      · intro j hj
        have hjk : ¬ ((j : Int) = k) := by omega
        unfold fv
        split <;> simp [gi_si, gl_si, rf_si, gi_sl, gl_sl, rf_sl, gi_sr, gl_sr, rf_sr, hjk]
    · refine ce_ad rfl ?_ ?_ ?_ (fun _ _ _ => rfl) <;> funext j <;> simp [gi_si, gl_si, rf_si, gi_sl, gl_sl, rf_sl, gi_sr, gl_sr, rf_sr, hao]
  have K : ∀ (H1 : Heap) (locs1 : List Loc), va_P D vwCl (cw cA ad (si h o k x)) H1 → va_D A (cw cA ad (si h o k x)) → va_S A s.heap H1 locs1 → _ := fun H1 locs1 p1 p2 p3 => kk p l e s m args below meth c D cA w0 A B n0 ad0 ad H1 ls locs1 cells slots ⟨⟨hx, hb, hml, hr, hts, hown, hnm, hlk⟩, hK, hA, hSF, p1, p2, p3, hO.si hv, hG, fun v z => (ok_t (ok_t hst) v z), fun v z => (hlo v z), hL, had, hn0, hc, hs⟩
  rcases hlink with hw | ⟨host, hw⟩
  · exact va_put hx hb hts hcl.1 (vwTy ci) hcl.2.1 hcl.2.2 hown hK hP hD hS o he hq k hkq (hts _ hw) (fun x e => hsm ▸ e) hfin (hcl.2.1 k hkq) (hn := by rw [hty, ht]; rfl) (hfit := by rw [hty, ht]; rfl) hlen hd (fun H1 locs1 p1 p2 p3 => K H1 locs1 (hnew ▸ p1) (hnew ▸ p2) p3)
  · exact va_putN hx hb hts hcl.1 (vwTy ci) hcl.2.1 hcl.2.2 hown hK hP hD hS o he hq k hkq (hts _ hw) (fun x e => hsm ▸ e) hfin (hcl.2.1 k hkq) (hn := by rw [hty, ht]; rfl) (hfit := by rw [hty, ht]; rfl) hlen hd (fun H1 locs1 p1 p2 p3 => K H1 locs1 (hnew ▸ p1) (hnew ▸ p2) p3)

theorem J_putZ {o idx ci k : Nat} {x : Int} {t : FieldType} (fl : FL y.1.cls idx ci k t false) (ht : t = .boolean) (hx01 : x = 0 ∨ x = 1) (hk : Kd G h o (.inl ci)) (hd : decode y.2.1 pc = .ok (.putfield idx, 3)) (kk : J G d b y Q (pc + 3) loc st (si h o k x)) : J G d b y Q pc loc (vI x :: vR (some o) :: st) h := by
  intro p l e s m args below meth c D cA w0 A B n0 ad0 ad H ls locs cells slots C
  obtain ⟨⟨hx, hb, hml, hr, hts, hown, hnm, hlk⟩, hK, hA, hSF, hP, hD, hS, hO, hG, hst, hlo, hL, had, hn0, hc, hs⟩ := id C
  obtain ⟨hk1, hk2⟩ := hk.use hG
  obtain ⟨q, hq, hkq, hty, hfin, hsm, hlink⟩ := fl
  have he : (cw cA ad h)[o]? = some (ad o, .inr (ci, (List.range (nf ci)).map (fun k => fv ad h o ci k))) := by rw [cw_get hk2, ce_obj hk1]
  have hcl := clsOk hq
  have hlen : k < ((List.range (nf ci)).map (fun k => fv ad h o ci k)).length := by simp; rw [nf_of hq]; exact hkq
  have hv := ok_h hst
  have hnew : (cw cA ad h).set o (ad o, .inr (ci, ((List.range (nf ci)).map (fun k => fv ad h o ci k)).set k (.int (Int32.ofInt x)))) = cw cA ad (si h o k x) := by
    refine cw_set rfl hk2 ?_ (fun a ha hao => ?_)
    · rw [ce_obj (ci := ci) (by exact hk1)]
      congr 2
      refine (fs_set ?_ ?_).symm
      · simp only [fv, ft, hty, ht, ftc, gi_si]; simp
      · intro j hj
        have hjk : ¬ ((j : Int) = k) := by omega
        unfold fv
        split <;> simp [gi_si, gl_si, rf_si, gi_sl, gl_sl, rf_sl, gi_sr, gl_sr, rf_sr, hjk]
    · refine ce_ad rfl ?_ ?_ ?_ (fun _ _ _ => rfl) <;> funext j <;> simp [gi_si, gl_si, rf_si, gi_sl, gl_sl, rf_sl, gi_sr, gl_sr, rf_sr, hao]
  have K : ∀ (H1 : Heap) (locs1 : List Loc), va_P D vwCl (cw cA ad (si h o k x)) H1 → va_D A (cw cA ad (si h o k x)) → va_S A s.heap H1 locs1 → _ := fun H1 locs1 p1 p2 p3 => kk p l e s m args below meth c D cA w0 A B n0 ad0 ad H1 ls locs1 cells slots ⟨⟨hx, hb, hml, hr, hts, hown, hnm, hlk⟩, hK, hA, hSF, p1, p2, p3, hO.si hv, hG, fun v z => (ok_t (ok_t hst) v z), fun v z => (hlo v z), hL, had, hn0, hc, hs⟩
  rcases hlink with hw | ⟨host, hw⟩
  · exact va_put hx hb hts hcl.1 (vwTy ci) hcl.2.1 hcl.2.2 hown hK hP hD hS o he hq k hkq (hts _ hw) (fun x e => hsm ▸ e) hfin (hcl.2.1 k hkq) (hn := by rw [hty, ht]; rcases hx01 with z | z <;> subst z <;> rfl) (hfit := by rw [hty, ht]; rcases hx01 with z | z <;> subst z <;> rfl) hlen hd (fun H1 locs1 p1 p2 p3 => K H1 locs1 (hnew ▸ p1) (hnew ▸ p2) p3)
  · exact va_putN hx hb hts hcl.1 (vwTy ci) hcl.2.1 hcl.2.2 hown hK hP hD hS o he hq k hkq (hts _ hw) (fun x e => hsm ▸ e) hfin (hcl.2.1 k hkq) (hn := by rw [hty, ht]; rcases hx01 with z | z <;> subst z <;> rfl) (hfit := by rw [hty, ht]; rcases hx01 with z | z <;> subst z <;> rfl) hlen hd (fun H1 locs1 p1 p2 p3 => K H1 locs1 (hnew ▸ p1) (hnew ▸ p2) p3)

theorem J_putL {o idx ci k : Nat} {x : Int} {t : FieldType} (fl : FL y.1.cls idx ci k t false) (ht : t = .long) (hk : Kd G h o (.inl ci)) (hd : decode y.2.1 pc = .ok (.putfield idx, 3)) (kk : J G d b y Q (pc + 3) loc st (sl h o k x)) : J G d b y Q pc loc (vL x :: vR (some o) :: st) h := by
  intro p l e s m args below meth c D cA w0 A B n0 ad0 ad H ls locs cells slots C
  obtain ⟨⟨hx, hb, hml, hr, hts, hown, hnm, hlk⟩, hK, hA, hSF, hP, hD, hS, hO, hG, hst, hlo, hL, had, hn0, hc, hs⟩ := id C
  obtain ⟨hk1, hk2⟩ := hk.use hG
  obtain ⟨q, hq, hkq, hty, hfin, hsm, hlink⟩ := fl
  have he : (cw cA ad h)[o]? = some (ad o, .inr (ci, (List.range (nf ci)).map (fun k => fv ad h o ci k))) := by rw [cw_get hk2, ce_obj hk1]
  have hcl := clsOk hq
  have hlen : k < ((List.range (nf ci)).map (fun k => fv ad h o ci k)).length := by simp; rw [nf_of hq]; exact hkq
  have hv := ok_h hst
  have hnew : (cw cA ad h).set o (ad o, .inr (ci, ((List.range (nf ci)).map (fun k => fv ad h o ci k)).set k (.long (Int64.ofInt x)))) = cw cA ad (sl h o k x) := by
    refine cw_set rfl hk2 ?_ (fun a ha hao => ?_)
    · rw [ce_obj (ci := ci) (by exact hk1)]
      congr 2
      refine (fs_set ?_ ?_).symm
      · simp only [fv, ft, hty, ht, ftc, gl_sl]; simp
      · intro j hj
        have hjk : ¬ ((j : Int) = k) := by omega
        unfold fv
        split <;> simp [gi_si, gl_si, rf_si, gi_sl, gl_sl, rf_sl, gi_sr, gl_sr, rf_sr, hjk]
    · refine ce_ad rfl ?_ ?_ ?_ (fun _ _ _ => rfl) <;> funext j <;> simp [gi_si, gl_si, rf_si, gi_sl, gl_sl, rf_sl, gi_sr, gl_sr, rf_sr, hao]
  have K : ∀ (H1 : Heap) (locs1 : List Loc), va_P D vwCl (cw cA ad (sl h o k x)) H1 → va_D A (cw cA ad (sl h o k x)) → va_S A s.heap H1 locs1 → _ := fun H1 locs1 p1 p2 p3 => kk p l e s m args below meth c D cA w0 A B n0 ad0 ad H1 ls locs1 cells slots ⟨⟨hx, hb, hml, hr, hts, hown, hnm, hlk⟩, hK, hA, hSF, p1, p2, p3, hO.sl hv, hG, fun v z => (ok_t (ok_t hst) v z), fun v z => (hlo v z), hL, had, hn0, hc, hs⟩
  rcases hlink with hw | ⟨host, hw⟩
  · exact va_put hx hb hts hcl.1 (vwTy ci) hcl.2.1 hcl.2.2 hown hK hP hD hS o he hq k hkq (hts _ hw) (fun x e => hsm ▸ e) hfin (hcl.2.1 k hkq) (hn := by rw [hty, ht]; rfl) (hfit := by rw [hty, ht]; rfl) hlen hd (fun H1 locs1 p1 p2 p3 => K H1 locs1 (hnew ▸ p1) (hnew ▸ p2) p3)
  · exact va_putN hx hb hts hcl.1 (vwTy ci) hcl.2.1 hcl.2.2 hown hK hP hD hS o he hq k hkq (hts _ hw) (fun x e => hsm ▸ e) hfin (hcl.2.1 k hkq) (hn := by rw [hty, ht]; rfl) (hfit := by rw [hty, ht]; rfl) hlen hd (fun H1 locs1 p1 p2 p3 => K H1 locs1 (hnew ▸ p1) (hnew ▸ p2) p3)

theorem J_putR {o idx ci k : Nat} {x : Option Nat} {t : FieldType} (fl : FL y.1.cls idx ci k t false) (ht : (∃ n, t = .object n) ∨ ∃ n, t = .array n) (hgs : G.2 o k = none ∨ G.2 o k = x) (hk : Kd G h o (.inl ci)) (hd : decode y.2.1 pc = .ok (.putfield idx, 3)) (kk : J G d b y Q (pc + 3) loc st (sr h o k x)) : J G d b y Q pc loc (vR x :: vR (some o) :: st) h := by
  intro p l e s m args below meth c D cA w0 A B n0 ad0 ad H ls locs cells slots C
  obtain ⟨⟨hx, hb, hml, hr, hts, hown, hnm, hlk⟩, hK, hA, hSF, hP, hD, hS, hO, hG, hst, hlo, hL, had, hn0, hc, hs⟩ := id C
  obtain ⟨hk1, hk2⟩ := hk.use hG
  obtain ⟨q, hq, hkq, hty, hfin, hsm, hlink⟩ := fl
  have he : (cw cA ad h)[o]? = some (ad o, .inr (ci, (List.range (nf ci)).map (fun k => fv ad h o ci k))) := by rw [cw_get hk2, ce_obj hk1]
  have hcl := clsOk hq
  have hlen : k < ((List.range (nf ci)).map (fun k => fv ad h o ci k)).length := by simp; rw [nf_of hq]; exact hkq
  have hv := ok_h hst
  have hnew : (cw cA ad h).set o (ad o, .inr (ci, ((List.range (nf ci)).map (fun k => fv ad h o ci k)).set k (va_rf (x.map ad)))) = cw cA ad (sr h o k x) := by
    refine cw_set rfl hk2 ?_ (fun a ha hao => ?_)
    · rw [ce_obj (ci := ci) (by exact hk1)]
      congr 2
      refine (fs_set ?_ ?_).symm
      · rcases ht with ⟨n, z⟩ | ⟨n, z⟩ <;> simp only [fv, ft, hty, z, ftc, rf_sr] <;> simp
      · intro j hj
        have hjk : ¬ ((j : Int) = k) := by omega
        unfold fv
        split <;> simp [gi_si, gl_si, rf_si, gi_sl, gl_sl, rf_sl, gi_sr, gl_sr, rf_sr, hjk]
    · refine ce_ad rfl ?_ ?_ ?_ (fun _ _ _ => rfl) <;> funext j <;> simp [gi_si, gl_si, rf_si, gi_sl, gl_sl, rf_sl, gi_sr, gl_sr, rf_sr, hao]
  have K : ∀ (H1 : Heap) (locs1 : List Loc), va_P D vwCl (cw cA ad (sr h o k x)) H1 → va_D A (cw cA ad (sr h o k x)) → va_S A s.heap H1 locs1 → _ := fun H1 locs1 p1 p2 p3 => kk p l e s m args below meth c D cA w0 A B n0 ad0 ad H1 ls locs1 cells slots ⟨⟨hx, hb, hml, hr, hts, hown, hnm, hlk⟩, hK, hA, hSF, p1, p2, p3, hO.sr (fun r e => hv r e), hG.sr hgs, fun v z => (ok_t (ok_t hst) v z), fun v z => (hlo v z), hL, had, hn0, hc, hs⟩
  rcases hlink with hw | ⟨host, hw⟩
  · exact va_put hx hb hts hcl.1 (vwTy ci) hcl.2.1 hcl.2.2 hown hK hP hD hS o he hq k hkq (hts _ hw) (fun x e => hsm ▸ e) hfin (hcl.2.1 k hkq) (hn := by rw [hty]; rcases ht with ⟨n, z⟩ | ⟨n, z⟩ <;> subst z <;> cases x <;> rfl) (hfit := by rw [hty]; rcases ht with ⟨n, z⟩ | ⟨n, z⟩ <;> subst z <;> cases x <;> rfl) hlen hd (fun H1 locs1 p1 p2 p3 => K H1 locs1 (hnew ▸ p1) (hnew ▸ p2) p3)
  · exact va_putN hx hb hts hcl.1 (vwTy ci) hcl.2.1 hcl.2.2 hown hK hP hD hS o he hq k hkq (hts _ hw) (fun x e => hsm ▸ e) hfin (hcl.2.1 k hkq) (hn := by rw [hty]; rcases ht with ⟨n, z⟩ | ⟨n, z⟩ <;> subst z <;> cases x <;> rfl) (hfit := by rw [hty]; rcases ht with ⟨n, z⟩ | ⟨n, z⟩ <;> subst z <;> cases x <;> rfl) hlen hd (fun H1 locs1 p1 p2 p3 => K H1 locs1 (hnew ▸ p1) (hnew ▸ p2) p3)

theorem J_putRF {o idx ci k : Nat} {x : Option Nat} {t : FieldType} (fl : FL y.1.cls idx ci k t true) (ht : (∃ n, t = .object n) ∨ ∃ n, t = .array n) (hgs : G.2 o k = none ∨ G.2 o k = x) (hin : y.1.name = "<init>") (hself : ∀ q : vw_C, vwCl[ci]? = some q → q.1 = y.1.cls ∧ Cond.fieldLink y.1.cls idx q.1 (q.2.1 k).2.1 (q.2.1 k).2.2.1 ∈ jT) (hk : Kd G h o (.inl ci)) (hd : decode y.2.1 pc = .ok (.putfield idx, 3)) (kk : J G d b y Q (pc + 3) loc st (sr h o k x)) : J G d b y Q pc loc (vR x :: vR (some o) :: st) h := by
  intro p l e s m args below meth c D cA w0 A B n0 ad0 ad H ls locs cells slots C
  obtain ⟨⟨hx, hb, hml, hr, hts, hown, hnm, hlk⟩, hK, hA, hSF, hP, hD, hS, hO, hG, hst, hlo, hL, had, hn0, hc, hs⟩ := id C
  obtain ⟨hk1, hk2⟩ := hk.use hG
  obtain ⟨q, hq, hkq, hty, hfin, hsm, hlink⟩ := fl
  have he : (cw cA ad h)[o]? = some (ad o, .inr (ci, (List.range (nf ci)).map (fun k => fv ad h o ci k))) := by rw [cw_get hk2, ce_obj hk1]
  have hcl := clsOk hq
  have hlen : k < ((List.range (nf ci)).map (fun k => fv ad h o ci k)).length := by simp; rw [nf_of hq]; exact hkq
  have hv := ok_h hst
  have hnew : (cw cA ad h).set o (ad o, .inr (ci, ((List.range (nf ci)).map (fun k => fv ad h o ci k)).set k (va_rf (x.map ad)))) = cw cA ad (sr h o k x) := by
    refine cw_set rfl hk2 ?_ (fun a ha hao => ?_)
    · rw [ce_obj (ci := ci) (by exact hk1)]
      congr 2
      refine (fs_set ?_ ?_).symm
      · rcases ht with ⟨n, z⟩ | ⟨n, z⟩ <;> simp only [fv, ft, hty, z, ftc, rf_sr] <;> simp
      · intro j hj
        have hjk : ¬ ((j : Int) = k) := by omega
        unfold fv
        split <;> simp [gi_si, gl_si, rf_si, gi_sl, gl_sl, rf_sl, gi_sr, gl_sr, rf_sr, hjk]
    · refine ce_ad rfl ?_ ?_ ?_ (fun _ _ _ => rfl) <;> funext j <;> simp [gi_si, gl_si, rf_si, gi_sl, gl_sl, rf_sl, gi_sr, gl_sr, rf_sr, hao]
  have K : ∀ (H1 : Heap) (locs1 : List Loc), va_P D vwCl (cw cA ad (sr h o k x)) H1 → va_D A (cw cA ad (sr h o k x)) → va_S A s.heap H1 locs1 → _ := fun H1 locs1 p1 p2 p3 => kk p l e s m args below meth c D cA w0 A B n0 ad0 ad H1 ls locs1 cells slots ⟨⟨hx, hb, hml, hr, hts, hown, hnm, hlk⟩, hK, hA, hSF, p1, p2, p3, hO.sr (fun r e => hv r e), hG.sr hgs, fun v z => (ok_t (ok_t hst) v z), fun v z => (hlo v z), hL, had, hn0, hc, hs⟩
  obtain ⟨hs1, hw⟩ := hself q hq
  exact va_putF hx hb hts hcl.1 (vwTy ci) hcl.2.1 hcl.2.2 hown hK hP hD hS o he hq k hkq (hts _ hw) (fun x e => hsm ▸ e) hfin (hnm.trans hin) (hsm.trans hs1) (hcl.2.1 k hkq) (hn := by rw [hty]; rcases ht with ⟨n, z⟩ | ⟨n, z⟩ <;> subst z <;> cases x <;> rfl) (hfit := by rw [hty]; rcases ht with ⟨n, z⟩ | ⟨n, z⟩ <;> subst z <;> cases x <;> rfl) hlen hd (fun H1 locs1 p1 p2 p3 => K H1 locs1 (hnew ▸ p1) (hnew ▸ p2) p3)

theorem J_putIF {o idx ci k : Nat} {x : Int} {t : FieldType} (fl : FL y.1.cls idx ci k t true) (ht : t = .int) (hin : y.1.name = "<init>") (hself : ∀ q : vw_C, vwCl[ci]? = some q → q.1 = y.1.cls ∧ Cond.fieldLink y.1.cls idx q.1 (q.2.1 k).2.1 (q.2.1 k).2.2.1 ∈ jT) (hk : Kd G h o (.inl ci)) (hd : decode y.2.1 pc = .ok (.putfield idx, 3)) (kk : J G d b y Q (pc + 3) loc st (si h o k x)) : J G d b y Q pc loc (vI x :: vR (some o) :: st) h := by
  intro p l e s m args below meth c D cA w0 A B n0 ad0 ad H ls locs cells slots C
  obtain ⟨⟨hx, hb, hml, hr, hts, hown, hnm, hlk⟩, hK, hA, hSF, hP, hD, hS, hO, hG, hst, hlo, hL, had, hn0, hc, hs⟩ := id C
  obtain ⟨hk1, hk2⟩ := hk.use hG
  obtain ⟨q, hq, hkq, hty, hfin, hsm, hlink⟩ := fl
  have he : (cw cA ad h)[o]? = some (ad o, .inr (ci, (List.range (nf ci)).map (fun k => fv ad h o ci k))) := by rw [cw_get hk2, ce_obj hk1]
  have hcl := clsOk hq
  have hlen : k < ((List.range (nf ci)).map (fun k => fv ad h o ci k)).length := by simp; rw [nf_of hq]; exact hkq
  have hv := ok_h hst
  have hnew : (cw cA ad h).set o (ad o, .inr (ci, ((List.range (nf ci)).map (fun k => fv ad h o ci k)).set k (.int (Int32.ofInt x)))) = cw cA ad (si h o k x) := by
    refine cw_set rfl hk2 ?_ (fun a ha hao => ?_)
    · rw [ce_obj (ci := ci) (by exact hk1)]
      congr 2
      refine (fs_set ?_ ?_).symm
      · simp only [fv, ft, hty, ht, ftc, gi_si]; simp
      · intro j hj
        have hjk : ¬ ((j : Int) = k) := by omega
        unfold fv
        split <;> simp [gi_si, gl_si, rf_si, gi_sl, gl_sl, rf_sl, gi_sr, gl_sr, rf_sr, hjk]
    · refine ce_ad rfl ?_ ?_ ?_ (fun _ _ _ => rfl) <;> funext j <;> simp [gi_si, gl_si, rf_si, gi_sl, gl_sl, rf_sl, gi_sr, gl_sr, rf_sr, hao]
  have K : ∀ (H1 : Heap) (locs1 : List Loc), va_P D vwCl (cw cA ad (si h o k x)) H1 → va_D A (cw cA ad (si h o k x)) → va_S A s.heap H1 locs1 → _ := fun H1 locs1 p1 p2 p3 => kk p l e s m args below meth c D cA w0 A B n0 ad0 ad H1 ls locs1 cells slots ⟨⟨hx, hb, hml, hr, hts, hown, hnm, hlk⟩, hK, hA, hSF, p1, p2, p3, hO.si hv, hG, fun v z => (ok_t (ok_t hst) v z), fun v z => (hlo v z), hL, had, hn0, hc, hs⟩
  obtain ⟨hs1, hw⟩ := hself q hq
  exact va_putF hx hb hts hcl.1 (vwTy ci) hcl.2.1 hcl.2.2 hown hK hP hD hS o he hq k hkq (hts _ hw) (fun x e => hsm ▸ e) hfin (hnm.trans hin) (hsm.trans hs1) (hcl.2.1 k hkq) (hn := by rw [hty, ht]; rfl) (hfit := by rw [hty, ht]; rfl) hlen hd (fun H1 locs1 p1 p2 p3 => K H1 locs1 (hnew ▸ p1) (hnew ▸ p2) p3)
end ROWB
