/-! the static graphs; helpers of the printed scripts -/
def gxk : List AK := [.inl 7, .inl 0, .inr (0, 8), .inr (0, 8), .inr (0, 8), .inr (0, 8), .inr (0, 8), .inr (0, 8), .inr (0, 8), .inr (0, 8), .inr (0, 25), .inr (0, 25), .inr (0, 8), .inr (4, 6), .inr (0, 5), .inr (1, 2), .inl 0, .inr (0, 8), .inr (0, 8), .inr (0, 8), .inr (0, 8), .inr (0, 8), .inr (0, 8), .inr (0, 8), .inr (0, 8), .inr (0, 25), .inr (0, 25), .inr (0, 8), .inr (4, 6), .inl 4, .inr (0, 400), .inl 3, .inr (0, 401), .inr (0, 401), .inr (0, 401), .inl 5, .inr (0, 60), .inr (0, 872), .inl 1, .inr (0, 38), .inr (0, 100), .inl 6, .inr (0, 13056), .inl 2, .inr (0, 64), .inr (0, 2304), .inr (0, 1024), .inr (0, 7), .inr (0, 8), .inr (0, 8), .inl 0, .inr (0, 8), .inr (0, 8), .inr (0, 8), .inr (0, 8), .inr (0, 8), .inr (0, 8), .inr (0, 8), .inr (0, 8), .inr (0, 25), .inr (0, 25), .inr (0, 8), .inr (4, 6), .inl 0, .inr (0, 8), .inr (0, 8), .inr (0, 8), .inr (0, 8), .inr (0, 8), .inr (0, 8), .inr (0, 8), .inr (0, 8), .inr (0, 25), .inr (0, 25), .inr (0, 8), .inr (4, 6)]
def gxr : List (List (Option Nat)) := [[some 1, some 50, some 15, some 16, none, some 29, some 31, some 38, some 41, some 43, none, none, none, none, none, some 14, some 63], [none, some 2, none, some 3, some 4, some 5, some 6, some 7, some 8, some 9, some 10, some 11, none, some 12, none, none, none, some 13], [], [], [], [], [], [], [], [], [], [], [], [], [], [], [none, some 17, none, some 18, some 19, some 20, some 21, some 22, some 23, some 24, some 25, some 26, none, some 27, none, none, none, some 28], [], [], [], [], [], [], [], [], [], [], [], [], [some 30], [], [some 32, some 33, some 34, none, none, none, none, none, none, some 35], [], [], [], [none, some 36, none, some 37], [], [], [some 39, some 40], [], [], [some 42], [], [some 44, some 45, some 46, some 47, some 48, some 49], [], [], [], [], [], [], [none, some 51, none, some 52, some 53, some 54, some 55, some 56, some 57, some 58, some 59, some 60, none, some 61, none, none, none, some 62], [], [], [], [], [], [], [], [], [], [], [], [], [none, some 64, none, some 65, some 66, some 67, some 68, some 69, some 70, some 71, some 72, some 73, none, some 74, none, none, none, some 75], [], [], [], [], [], [], [], [], [], [], [], []]
def GX : GT := (fun o => gxk[o]?, fun o k => match k with
  | .ofNat n => (gxr.getD o []).getD n none
  | .negSucc _ => none)
def gmk : List AK := [.inl 8, .inr (0, 7), .inr (0, 5540), .inr (0, 11080), .inr (1, 2), .inr (0, 1062), .inr (0, 16), .inr (0, 944), .inr (0, 16), .inr (0, 400), .inr (0, 96), .inr (0, 400), .inr (0, 400), .inr (0, 400), .inr (0, 400), .inr (2, 11), .inr (2, 7), .inr (2, 4), .inr (2, 13), .inr (2, 13), .inr (2, 400), .inr (0, 8), .inr (0, 2304), .inr (0, 25), .inr (0, 8), .inr (0, 7), .inr (0, 8), .inr (0, 8), .inr (2, 5), .inr (0, 96), .inr (0, 16), .inr (0, 25)]
def gmr : List (List (Option Nat)) := [[none, none, some 1, some 2, some 3, some 4, some 5, some 6, none, some 7, some 8, none, some 9, none, none, none, none, none, none, none, none, none, some 10, none, some 11, some 12, none, some 13, some 14, none, none, some 15, some 16, some 17, none, some 18, some 19, some 20, none, none, none, some 21, some 22, some 23, some 24, some 25, some 26, some 27, some 28, some 29, none, none, none, none, none, some 30, some 31], [], [], [], [], [], [], [], [], [], [], [], [], [], [], [], [], [], [], [], [], [], [], [], [], [], [], [], [], [], [], []]
def GM : GT := (fun o => gmk[o]?, fun o k => match k with
  | .ofNat n => (gmr.getD o []).getD n none
  | .negSucc _ => none)
abbrev isl (o : Nat) : Prop := o = 1 ∨ o = 16 ∨ o = 50 ∨ o = 63
theorem gx_isl {o : Nat} (h : isl o) : GX.1 o = some (.inl 0) := by rcases h with z | z | z | z <;> subst z <;> rfl
theorem gx_a1 {o : Nat} (h : isl o) : GX.1 (o + 1) = some (.inr (0, 8)) := by rcases h with z | z | z | z <;> subst z <;> rfl
theorem gx_r1 {o : Nat} (h : isl o) : GX.2 o (1 : Nat) = some (o + 1) := by rcases h with z | z | z | z <;> subst z <;> rfl
theorem gx_a2 {o : Nat} (h : isl o) : GX.1 (o + 2) = some (.inr (0, 8)) := by rcases h with z | z | z | z <;> subst z <;> rfl
theorem gx_r2 {o : Nat} (h : isl o) : GX.2 o (3 : Nat) = some (o + 2) := by rcases h with z | z | z | z <;> subst z <;> rfl
theorem gx_a3 {o : Nat} (h : isl o) : GX.1 (o + 3) = some (.inr (0, 8)) := by rcases h with z | z | z | z <;> subst z <;> rfl
theorem gx_r3 {o : Nat} (h : isl o) : GX.2 o (4 : Nat) = some (o + 3) := by rcases h with z | z | z | z <;> subst z <;> rfl
theorem gx_a4 {o : Nat} (h : isl o) : GX.1 (o + 4) = some (.inr (0, 8)) := by rcases h with z | z | z | z <;> subst z <;> rfl
theorem gx_r4 {o : Nat} (h : isl o) : GX.2 o (5 : Nat) = some (o + 4) := by rcases h with z | z | z | z <;> subst z <;> rfl
theorem gx_a5 {o : Nat} (h : isl o) : GX.1 (o + 5) = some (.inr (0, 8)) := by rcases h with z | z | z | z <;> subst z <;> rfl
theorem gx_r5 {o : Nat} (h : isl o) : GX.2 o (6 : Nat) = some (o + 5) := by rcases h with z | z | z | z <;> subst z <;> rfl
theorem gx_a6 {o : Nat} (h : isl o) : GX.1 (o + 6) = some (.inr (0, 8)) := by rcases h with z | z | z | z <;> subst z <;> rfl
theorem gx_r6 {o : Nat} (h : isl o) : GX.2 o (7 : Nat) = some (o + 6) := by rcases h with z | z | z | z <;> subst z <;> rfl
theorem gx_a7 {o : Nat} (h : isl o) : GX.1 (o + 7) = some (.inr (0, 8)) := by rcases h with z | z | z | z <;> subst z <;> rfl
theorem gx_r7 {o : Nat} (h : isl o) : GX.2 o (8 : Nat) = some (o + 7) := by rcases h with z | z | z | z <;> subst z <;> rfl
theorem gx_a8 {o : Nat} (h : isl o) : GX.1 (o + 8) = some (.inr (0, 8)) := by rcases h with z | z | z | z <;> subst z <;> rfl
theorem gx_r8 {o : Nat} (h : isl o) : GX.2 o (9 : Nat) = some (o + 8) := by rcases h with z | z | z | z <;> subst z <;> rfl
theorem gx_a9 {o : Nat} (h : isl o) : GX.1 (o + 9) = some (.inr (0, 25)) := by rcases h with z | z | z | z <;> subst z <;> rfl
theorem gx_r9 {o : Nat} (h : isl o) : GX.2 o (10 : Nat) = some (o + 9) := by rcases h with z | z | z | z <;> subst z <;> rfl
theorem gx_a10 {o : Nat} (h : isl o) : GX.1 (o + 10) = some (.inr (0, 25)) := by rcases h with z | z | z | z <;> subst z <;> rfl
theorem gx_r10 {o : Nat} (h : isl o) : GX.2 o (11 : Nat) = some (o + 10) := by rcases h with z | z | z | z <;> subst z <;> rfl
theorem gx_a11 {o : Nat} (h : isl o) : GX.1 (o + 11) = some (.inr (0, 8)) := by rcases h with z | z | z | z <;> subst z <;> rfl
theorem gx_r11 {o : Nat} (h : isl o) : GX.2 o (13 : Nat) = some (o + 11) := by rcases h with z | z | z | z <;> subst z <;> rfl
theorem gx_a12 {o : Nat} (h : isl o) : GX.1 (o + 12) = some (.inr (4, 6)) := by rcases h with z | z | z | z <;> subst z <;> rfl
theorem gx_r12 {o : Nat} (h : isl o) : GX.2 o (17 : Nat) = some (o + 12) := by rcases h with z | z | z | z <;> subst z <;> rfl
def b2i (p : Prop) [Decidable p] : Int := if p then 1 else 0
theorem b2i_01 (p : Prop) [Decidable p] : b2i p = 0 ∨ b2i p = 1 := by unfold b2i; split <;> simp
theorem b2i_0 {p : Prop} [Decidable p] : b2i p = 0 ↔ ¬ p := by unfold b2i; split <;> simp_all
theorem b2i_n0 {p : Prop} [Decidable p] : ¬ b2i p = 0 ↔ p := by unfold b2i; split <;> simp_all
theorem b2i_t {p : Prop} [Decidable p] (h : p) : b2i p = 1 := if_pos h
theorem b2i_f {p : Prop} [Decidable p] (h : ¬ p) : b2i p = 0 := if_neg h
theorem b2i_c {p q : Prop} [Decidable p] [Decidable q] (h : p ↔ q) : b2i p = b2i q := by unfold b2i; simp only [h]
theorem zc_eq {x z : Int} : zcmp x z = 0 ↔ x = z := by unfold zcmp; split <;> (try split) <;> omega
theorem zc_lt {x z : Int} : zcmp x z < 0 ↔ x < z := by unfold zcmp; split <;> (try split) <;> omega
theorem zc_ge {x z : Int} : 0 ≤ zcmp x z ↔ z ≤ x := by unfold zcmp; split <;> (try split) <;> omega
theorem zc_gt {x z : Int} : 0 < zcmp x z ↔ z < x := by unfold zcmp; split <;> (try split) <;> omega
theorem zc_le {x z : Int} : zcmp x z ≤ 0 ↔ x ≤ z := by unfold zcmp; split <;> (try split) <;> omega
theorem gi_eq {h : AH} {a : Nat} {i v : Int} : gi (si h a i v) a i = v := by rw [gi_si, if_pos ⟨rfl, rfl⟩]
theorem gi_no {h : AH} {a o : Nat} {i v k : Int} (e : o ≠ a) : gi (si h a i v) o k = gi h o k := by rw [gi_si, if_neg (fun q => e q.1)]
theorem gi_nk {h : AH} {a o : Nat} {i v k : Int} (e : k ≠ i) : gi (si h a i v) o k = gi h o k := by rw [gi_si, if_neg (fun q => e q.2)]
theorem gi_xl {h : AH} {a o : Nat} {i v k : Int} : gi (sl h a i v) o k = gi h o k := rfl
theorem gi_xr {h : AH} {a o : Nat} {i k : Int} {v : Option Nat} : gi (sr h a i v) o k = gi h o k := rfl
theorem gl_eq {h : AH} {a : Nat} {i v : Int} : gl (sl h a i v) a i = v := by rw [gl_sl, if_pos ⟨rfl, rfl⟩]
theorem gl_no {h : AH} {a o : Nat} {i v k : Int} (e : o ≠ a) : gl (sl h a i v) o k = gl h o k := by rw [gl_sl, if_neg (fun q => e q.1)]
theorem gl_nk {h : AH} {a o : Nat} {i v k : Int} (e : k ≠ i) : gl (sl h a i v) o k = gl h o k := by rw [gl_sl, if_neg (fun q => e q.2)]
theorem gl_xi {h : AH} {a o : Nat} {i v k : Int} : gl (si h a i v) o k = gl h o k := rfl
theorem gl_xr {h : AH} {a o : Nat} {i k : Int} {v : Option Nat} : gl (sr h a i v) o k = gl h o k := rfl
theorem rf_eq {h : AH} {a : Nat} {i : Int} {v : Option Nat} : rf (sr h a i v) a i = v := by rw [rf_sr, if_pos ⟨rfl, rfl⟩]
def locLe (a b : List (Option AV)) : Prop := match a, b with
  | [], [] => True
  | x :: r, z :: s => (x = none ∨ x = z) ∧ locLe r s
  | _, _ => False
theorem locLe_get : ∀ {a b : List (Option AV)}, locLe a b → a.length = b.length ∧ ∀ (i : Nat) (v : AV), a[i]? = some (some v) → b[i]? = some (some v)
  | [], [], _ => ⟨rfl, fun i v h => by simp at h⟩
  | [], _ :: _, h => h.elim
  | _ :: _, [], h => h.elim
  | x :: r, z :: s, h => by
    obtain ⟨h1, h2⟩ := locLe_get h.2
    refine ⟨by simp [h1], fun i v hi => ?_⟩
    match i, hi with
    | 0, hi =>
      rcases h.1 with e | e
      · rw [e] at hi; simp at hi
      · rw [← e]; exact hi
    | j + 1, hi => exact h2 j v hi
section HELP
variable {G : GT} {d b : Nat} {y : Mth} {Q : Option AV → AH → Prop} {pc : Nat} {loc loc' : List (Option AV)} {st : List AV} {h : AH}
theorem J_forget (e : locLe loc' loc) (k : J G d b y Q pc loc' st h) : J G d b y Q pc loc st h := by
  intro p l e' s m args below meth c D cA w0 A B n0 ad0 ad H ls locs cells slots C
  obtain ⟨e1, e2⟩ := locLe_get e
  refine k p l e' s m args below meth c D cA w0 A B n0 ad0 ad H ls locs cells slots ?_
  obtain ⟨c1, c2, c3, c4, c5, c6, c7, c8, c9, c10, c11, c12, c13⟩ := C
  refine ⟨c1, c2, c3, c4, c5, c6, c7, c8, c9, c10, fun v hv => ?_, ⟨c12.1, c12.2.1, e1.trans c12.2.2.1, fun i v hi => c12.2.2.2 i v (e2 i v hi)⟩, c13⟩
  obtain ⟨j, hj⟩ := List.getElem?_of_mem hv
  exact c11 v (List.mem_of_getElem? (e2 j v hj))
theorem WM_introE {vs : List AV} (hloc : locE vs y.2.2.1 = loc') (hpl : plainName y.1.cls = true) (hlen : (locA vs).length ≤ y.2.2.1) (k : J G d b y Q 0 loc' [] h) : WM G d b y vs h Q := WM_intro hpl hlen (hloc ▸ k)
theorem J_getIe {o idx ci k : Nat} {t : FieldType} {fin : Bool} {v : Int} (fl : FL y.1.cls idx ci k t fin) (ht : ftc t = 0) (hk : Kd G h o (.inl ci)) (hv : gi h o k = v) (hd : decode y.2.1 pc = .ok (.getfield idx, 3)) (kk : J G d b y Q (pc + 3) loc (vI v :: st) h) : J G d b y Q pc loc (vR (some o) :: st) h := J_getI fl ht hk hd (hv ▸ kk)
theorem J_getLe {o idx ci k : Nat} {t : FieldType} {fin : Bool} {v : Int} (fl : FL y.1.cls idx ci k t fin) (ht : ftc t = 1) (hk : Kd G h o (.inl ci)) (hv : gl h o k = v) (hd : decode y.2.1 pc = .ok (.getfield idx, 3)) (kk : J G d b y Q (pc + 3) loc (vL v :: st) h) : J G d b y Q pc loc (vR (some o) :: st) h := J_getL fl ht hk hd (hv ▸ kk)
theorem J_getRe {o idx ci k r : Nat} {t : FieldType} {fin : Bool} (fl : FL y.1.cls idx ci k t fin) (ht : ftc t = 2) (hk : Kd G h o (.inl ci)) (hv : rf h o k = some r) (hd : decode y.2.1 pc = .ok (.getfield idx, 3)) (kk : J G d b y Q (pc + 3) loc (vR (some r) :: st) h) : J G d b y Q pc loc (vR (some o) :: st) h := J_getR fl ht hk hd (hv ▸ kk)
theorem J_ialoade {a n : Nat} {i v : Int} (hk : Kd G h a (.inr (0, n))) (hi : 0 ≤ i ∧ i < n) (hv : gi h a i = v) (hd : decode y.2.1 pc = .ok (.iaload, 1)) (kk : J G d b y Q (pc + 1) loc (vI v :: st) h) : J G d b y Q pc loc (vI i :: vR (some a) :: st) h := J_iaload hk hi hd (hv ▸ kk)
theorem J_baloade {a n : Nat} {i v : Int} (hk : Kd G h a (.inr (1, n))) (hi : 0 ≤ i ∧ i < n) (hv : gi h a i = v) (hd : decode y.2.1 pc = .ok (.baload, 1)) (kk : J G d b y Q (pc + 1) loc (vI v :: st) h) : J G d b y Q pc loc (vI i :: vR (some a) :: st) h := J_baload hk hi hd (hv ▸ kk)
theorem J_laloade {a n : Nat} {i v : Int} (hk : Kd G h a (.inr (2, n))) (hi : 0 ≤ i ∧ i < n) (hv : gl h a i = v) (hd : decode y.2.1 pc = .ok (.laload, 1)) (kk : J G d b y Q (pc + 1) loc (vL v :: st) h) : J G d b y Q pc loc (vI i :: vR (some a) :: st) h := J_laload hk hi hd (hv ▸ kk)
def zabs (x : Int) : Int := if 0 ≤ x then x else -x
theorem J_mmin {x z : Int} {idx : Nat} (ml : ML 2 y.1.cls idx mJ9_min_7cf53 2) (hs8 : st.length ≤ 8) (hd : decode y.2.1 pc = .ok (.invokestatic idx, 3)) (k : J G (d + 1) b y Q (pc + 3) loc (vI (min x z) :: st) h) : J G (d + 1) b y Q pc loc (vI z :: vI x :: st) h := by
  intro p l e s m args below meth c D cA w0 A B n0 ad0 ad H ls locs cells slots C
  obtain ⟨⟨hx, hb, hml, hr, hts, hown, hnm, hlk⟩, hK, hA, hSF, hP, hD, hS, hO, hG, hst, hlo, hL, had, hn0, hc, hs⟩ := id C
  obtain ⟨m1, m2, m3, m4, m5⟩ := ml
  have hX : R32 x := ok_h (ok_t hst)
  have hZ : R32 z := ok_h hst
  have hsum := csum_le w0 ad st
  have K := k p l e s m args below meth c D cA w0 A B n0 ad0 ad H ls locs cells slots (CJ_st C (ok_c (show R32 (min x z) by omega) (ok_t (ok_t hst))))
  refine va_mmin hx hb (hml.trans hL.1.symm) hown (hts _ m4) (hts _ m5) (hts _ m2) (hts _ m1) (by show 1 ≤ d + 1; omega) (by show _ ≤ 64 * (d + 1); omega) (by show _ ≤ B; omega) (by show _ ≤ B; omega) hd ?_
  rw [cv_map_I] at K
  simp only [i32_lt hX hZ, i32_lt hZ hX]
  first
    | (rw [show min x z = if z < x then z else x by split <;> omega, apply_ite Int32.ofInt] at K; exact K)
    | (rw [show min x z = if x < z then x else z by split <;> omega, apply_ite Int32.ofInt] at K; exact K)
theorem J_mmax {x z : Int} {idx : Nat} (ml : ML 2 y.1.cls idx mJ9_max_7cf53 2) (hs8 : st.length ≤ 8) (hd : decode y.2.1 pc = .ok (.invokestatic idx, 3)) (k : J G (d + 1) b y Q (pc + 3) loc (vI (max x z) :: st) h) : J G (d + 1) b y Q pc loc (vI z :: vI x :: st) h := by
  intro p l e s m args below meth c D cA w0 A B n0 ad0 ad H ls locs cells slots C
  obtain ⟨⟨hx, hb, hml, hr, hts, hown, hnm, hlk⟩, hK, hA, hSF, hP, hD, hS, hO, hG, hst, hlo, hL, had, hn0, hc, hs⟩ := id C
  obtain ⟨m1, m2, m3, m4, m5⟩ := ml
  have hX : R32 x := ok_h (ok_t hst)
  have hZ : R32 z := ok_h hst
  have hsum := csum_le w0 ad st
  have K := k p l e s m args below meth c D cA w0 A B n0 ad0 ad H ls locs cells slots (CJ_st C (ok_c (show R32 (max x z) by omega) (ok_t (ok_t hst))))
  refine va_mmax hx hb (hml.trans hL.1.symm) hown (hts _ m4) (hts _ m5) (hts _ m2) (hts _ m1) (by show 1 ≤ d + 1; omega) (by show _ ≤ 64 * (d + 1); omega) (by show _ ≤ B; omega) (by show _ ≤ B; omega) hd ?_
  rw [cv_map_I] at K
  simp only [i32_lt hX hZ, i32_lt hZ hX]
  first
    | (rw [show max x z = if x < z then z else x by split <;> omega, apply_ite Int32.ofInt] at K; exact K)
    | (rw [show max x z = if z < x then x else z by split <;> omega, apply_ite Int32.ofInt] at K; exact K)
theorem J_mabs {x : Int} {idx : Nat} (hR : R32 (-x)) (ml : ML 2 y.1.cls idx mJ9_abs_0f7a4 1) (hs8 : st.length ≤ 8) (hd : decode y.2.1 pc = .ok (.invokestatic idx, 3)) (k : J G (d + 1) b y Q (pc + 3) loc (vI (zabs x) :: st) h) : J G (d + 1) b y Q pc loc (vI x :: st) h := by
  intro p l e s m args below meth c D cA w0 A B n0 ad0 ad H ls locs cells slots C
  obtain ⟨⟨hx, hb, hml, hr, hts, hown, hnm, hlk⟩, hK, hA, hSF, hP, hD, hS, hO, hG, hst, hlo, hL, had, hn0, hc, hs⟩ := id C
  obtain ⟨m1, m2, m3, m4, m5⟩ := ml
  have hX : R32 x := ok_h hst
  have hsum := csum_le w0 ad st
  have K := k p l e s m args below meth c D cA w0 A B n0 ad0 ad H ls locs cells slots (CJ_st C (ok_c (show R32 (zabs x) by unfold zabs; split <;> omega) (ok_t hst)))
  refine va_mabs hx hb (hml.trans hL.1.symm) hown (hts _ m4) (hts _ m5) (hts _ m2) (hts _ m1) (by show 1 ≤ d + 1; omega) (by show _ ≤ 64 * (d + 1); omega) (by show _ ≤ B; omega) (by show _ ≤ B; omega) hd ?_
  rw [cv_map_I] at K
  unfold zabs at K
  have e0 : (0 : Int32) = Int32.ofInt 0 := i32_0
  by_cases hp : 0 ≤ x
  · rw [if_pos hp] at K
    first
      | (rw [if_neg (by rw [e0, i32_lt hX r32_0]; omega)]; exact K)
      | (rw [if_pos (by rw [e0, i32_le r32_0 hX]; omega)]; exact K)
  · rw [if_neg hp, Int32.ofInt_neg] at K
    first
      | (rw [if_pos (by rw [e0, i32_lt hX r32_0]; omega)]; exact K)
      | (rw [if_neg (by rw [e0, i32_le r32_0 hX]; omega)]; exact K)
theorem WM_d {d' : Nat} {vs : List AV} (e : d = d') (k : WM G d b y vs h Q) : WM G d' b y vs h Q := e ▸ k
end HELP
