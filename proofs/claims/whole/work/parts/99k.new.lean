/-! how both sides begin: rows for constructors, over a heap of which nothing is known ahead -/
def G0 : GT := (fun _ => none, fun _ _ => none)
/-- a new object, its number told -/
def nwn (h : AH) (n : Nat) (t : AK) : AH := (n + 1, (fun o => if o = n then t else h.2.1 o), (fun o k => if o = n then 0 else h.2.2.1 o k), (fun o k => if o = n then 0 else h.2.2.2.1 o k), fun o k => if o = n then none else h.2.2.2.2 o k)
theorem nw_n {h : AH} {n : Nat} {t : AK} (e : hn h = n) : nw h t = nwn h n t := by subst e; rfl
theorem kd_nwn (h : AH) (n : Nat) (t : AK) (o : Nat) : kd (nwn h n t) o = if o = n then t else kd h o := rfl
theorem gi_nwn (h : AH) (n : Nat) (t : AK) (o : Nat) (k : Int) : gi (nwn h n t) o k = if o = n then 0 else gi h o k := rfl
theorem rf_nwn (h : AH) (n : Nat) (t : AK) (o : Nat) (k : Int) : rf (nwn h n t) o k = if o = n then none else rf h o k := rfl
theorem kd_si' (h : AH) (a : Nat) (i v : Int) (o : Nat) : kd (si h a i v) o = kd h o := rfl
theorem kd_sl' (h : AH) (a : Nat) (i v : Int) (o : Nat) : kd (sl h a i v) o = kd h o := rfl
theorem kd_sr' (h : AH) (a : Nat) (i : Int) (v : Option Nat) (o : Nat) : kd (sr h a i v) o = kd h o := rfl
theorem rf_si' (h : AH) (a : Nat) (i v : Int) (o : Nat) (k : Int) : rf (si h a i v) o k = rf h o k := rfl
/-- places s to s + m of array a become v -/
def fil (h : AH) (a : Nat) (s m v : Int) : AH := (h.1, h.2.1, (fun o k => if o = a ∧ s ≤ k ∧ k < s + m then v else h.2.2.1 o k), h.2.2.2.1, h.2.2.2.2)
theorem fil_0 {h : AH} {a : Nat} {s v : Int} : fil h a s 0 v = h := by
  unfold fil
  have : (fun (o : Nat) (k : Int) => if o = a ∧ s ≤ k ∧ k < s + 0 then v else h.2.2.1 o k) = h.2.2.1 := funext fun o => funext fun k => if_neg (by omega)
  rw [this]
theorem fil_s {h : AH} {a : Nat} {s m v : Int} (h0 : 0 ≤ m) : si (fil h a s m v) a (s + m) v = fil h a s (m + 1) v := by
  unfold fil si
  have : (upZ (fun (o : Nat) (k : Int) => if o = a ∧ s ≤ k ∧ k < s + m then v else h.2.2.1 o k) a (s + m) v) = (fun (o : Nat) (k : Int) => if o = a ∧ s ≤ k ∧ k < s + (m + 1) then v else h.2.2.1 o k) := funext fun o => funext fun k => by
    unfold upZ
    by_cases c : o = a ∧ k = s + m
    · rw [if_pos c, if_pos (by omega)]
    · rw [if_neg c]
      dsimp only
      by_cases c2 : o = a ∧ s ≤ k ∧ k < s + m
      · rw [if_pos c2, if_pos (by omega)]
      · rw [if_neg c2, if_neg (by omega)]
  exact congrArg (fun z => ((h.1, h.2.1, z, h.2.2.2.1, h.2.2.2.2) : AH)) this
theorem kd_fil (h : AH) (a : Nat) (s m v : Int) (o : Nat) : kd (fil h a s m v) o = kd h o := rfl
theorem rf_fil (h : AH) (a : Nat) (s m v : Int) (o : Nat) (k : Int) : rf (fil h a s m v) o k = rf h o k := rfl
theorem Kd0 {h : AH} {o : Nat} {t : AK} (k : Kd G0 h o t) : kd h o = t ∧ o < hn h := k.elim (fun z => by cases z) id
theorem Kd_nwn {h : AH} {o m : Nat} {t t' : AK} (k : Kd G0 h o t) (e : hn h = m) : Kd G0 (nwn h m t') o t := by
  have q := Kd0 k
  refine Or.inr ⟨?_, ?_⟩
  · rw [kd_nwn, if_neg (by omega)]
    exact q.1
  · show o < m + 1
    omega
theorem Kd_new0 {h : AH} {m : Nat} {t : AK} : Kd G0 (nwn h m t) m t := Or.inr ⟨by rw [kd_nwn, if_pos rfl], Nat.lt_succ_self m⟩
section NEW
variable {d b : Nat} {y : Mth} {Q : Option AV → AH → Prop} {pc : Nat} {loc : List (Option AV)} {st : List AV} {h : AH}
theorem J_newarray0e {N m : Nat} (e : hn h = m) (hN : N ≤ 60000000) {x : Int} (hx : x = (N : Int)) (hw : Cond.arrayClass .int ∈ jT) (hd : decode y.2.1 pc = .ok (.newarray .int, 2)) (kk : J G0 d b y Q (pc + 2) loc (vR (some m) :: st) (nwn h m (.inr (0, N)))) : J G0 d (b + (N + 1)) y Q pc loc (vI x :: st) h := by
  subst e hx
  exact J_newarray0 hN (fun _ => rfl) hw hd kk
theorem J_newarray1e {N m : Nat} (e : hn h = m) (hN : N ≤ 60000000) {x : Int} (hx : x = (N : Int)) (hw : Cond.arrayClass .boolean ∈ jT) (hd : decode y.2.1 pc = .ok (.newarray .boolean, 2)) (kk : J G0 d b y Q (pc + 2) loc (vR (some m) :: st) (nwn h m (.inr (1, N)))) : J G0 d (b + (N + 1)) y Q pc loc (vI x :: st) h := by
  subst e hx
  exact J_newarray1 hN (fun _ => rfl) hw hd kk
theorem J_newarray2e {N m : Nat} (e : hn h = m) (hN : N ≤ 60000000) {x : Int} (hx : x = (N : Int)) (hw : Cond.arrayClass .long ∈ jT) (hd : decode y.2.1 pc = .ok (.newarray .long, 2)) (kk : J G0 d b y Q (pc + 2) loc (vR (some m) :: st) (nwn h m (.inr (2, N)))) : J G0 d (b + (N + 1)) y Q pc loc (vI x :: st) h := by
  subst e hx
  exact J_newarray2 hN (fun _ => rfl) hw hd kk
theorem J_anewarray4e {N idx m : Nat} (e : hn h = m) (hN : N ≤ 60000000) {x : Int} (hx : x = (N : Int)) (hw : Cond.classLink y.1.cls idx RX5 ∈ jT) (hw2 : Cond.arrayOver (.object RX5) ∈ jT) (hd : decode y.2.1 pc = .ok (.anewarray idx, 3)) (kk : J G0 d b y Q (pc + 3) loc (vR (some m) :: st) (nwn h m (.inr (4, N)))) : J G0 d (b + (N + 1)) y Q pc loc (vI x :: st) h := by
  subst e hx
  exact J_anewarray4 hN (fun _ => rfl) hw hw2 hd kk
theorem J_newe {ci idx m : Nat} {q0 : vw_C} (e : hn h = m) (hq : vwCl[ci]? = some q0) (hw : Cond.classLink y.1.cls idx q0.1 ∈ jT) (hw2 : Cond.instantiable q0.1 q0.2.2 ∈ jT) (hw3 : Cond.initialized q0.1 ∈ jT) (hdf : ∀ k, k < q0.2.2 → defaultValue (vwTy ci k) = (match ft ci k with | 0 => .int 0 | 1 => .long 0 | _ => .null)) (hd : decode y.2.1 pc = .ok (.new idx, 3)) (kk : J G0 d b y Q (pc + 3) loc (vR (some m) :: st) (nwn h m (.inl ci))) : J G0 d (b + (q0.2.2 + 1)) y Q pc loc st h := by
  subst e
  exact J_new hq (fun _ => rfl) hw hw2 hw3 hdf hd kk
end NEW
theorem lp_fill {d b a na : Nat} {Q : Option AV → AH → Prop} {h : AH} {v : Int} (hk : kd h a = .inr (0, na) ∧ a < hn h) (hN : na ≤ 1000) (K : Q none (fil h a 0 na v)) : ∀ (f : Nat) (i : Int), i + f = na → 0 ≤ i → Lp_J7_fill_53178_5 G0 d b Q a na v i na (fil h a 0 i v)
  | 0, i, e, i0 => by
    have : i = na := by omega
    subst this
    exact l_J7_fill_53178_5 (Or.inr hk) ⟨fun _ => K, fun z => absurd (Int.le_refl _) z⟩
  | f + 1, i, e, i0 => by
    refine l_J7_fill_53178_5 (Or.inr hk) ⟨fun z => by omega, fun _ => ⟨by omega, fun h1 z1 => ⟨by omega, ?_⟩⟩⟩
    have w := fil_s (h := h) (a := a) (s := 0) (v := v) i0
    rw [Int.zero_add] at w
    rw [w] at z1
    subst z1
    exact lp_fill hk hN K f (i + 1) (by omega) (by omega)
theorem c_fill0 {d b a na : Nat} {Q : Option AV → AH → Prop} {h : AH} {v : Int} (hk : Kd G0 h a (.inr (0, na))) (hN : na ≤ 1000) (K : Q none (fil h a 0 na v)) : WM G0 d b mJ7_fill_53178 [vR (some a), vI v] h Q := by
  refine w_J7_fill_53178 hk ⟨by omega, ?_⟩
  have := lp_fill (d := d) (b := b) (Kd0 hk) hN K na 0 (by omega) (Int.le_refl 0)
  rw [fil_0] at this
  exact this
