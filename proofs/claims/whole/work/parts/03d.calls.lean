/-! ROWS OF J: calls; a method's contract out of its body -/
theorem keep_args {w : Cond} (hk : keepW w = true) {a a' : Array Value} {U : State} (h : w.before a U = true) : w.before a' U = true := by
  unfold keepW at hk
  split at hk
  · exact h
  · exact h
  · exact h
  · exact h
  · cases hk
theorem keep_warm {w : Cond} (hk : keepW w = true) {s U : State} (hW : s.WarmedH U.vm) (h : w.before #[] s = true) : w.before #[] U = true := by
  unfold keepW at hk
  split at hk
  · exact va_Nw.warmF hW h
  · exact va_Nw.warmM hW h
  · exact va_Nw.warmC hW h
  · exact va_AO.moved hW.alike h
  · cases hk
theorem keep_same {w : Cond} (hk : keepW w = true) {u U : State} (hv : U.vm = u.vm) (h : w.before #[] u = true) : w.before #[] U = true := by
  unfold keepW at hk
  split at hk
  · exact va_Nw.same rfl hv.symm h
  · exact va_Nw.same rfl hv.symm h
  · exact va_Nw.same rfl hv.symm h
  · exact va_AO.moved (by rw [hv]; exact Vm.Alike.refl u.vm) h
  · cases hk
theorem lw_gd {y : Mth} (hc : Cond.code y.1 y.2.1 y.2.2.1 y.2.2.2 ∈ jT) : GoodIn jT (wsJ y) := by
  intro w hw
  rcases List.mem_cons.mp hw with e | e
  · rw [e]
    exact ⟨hc, good_of_word rfl⟩
  · obtain ⟨e1, e2⟩ := List.mem_filter.mp e
    exact ⟨mem_jT e1 (by unfold okW; rw [e2]; rfl), good_of_word e2⟩
def ML (kn : Nat) (own : String) (idx : Nat) (y : Mth) (np : Nat) : Prop :=
  Cond.code y.1 y.2.1 y.2.2.1 y.2.2.2 ∈ jT ∧ Cond.initialized y.1.cls ∈ jT ∧ (y.1.cls ≠ "java/lang/invoke/MethodHandle" ∧ y.1.cls ≠ "java/lang/invoke/VarHandle" ∧ (parseMethodDescriptor y.1.desc).map (fun d => d.parameters.length) = some np) ∧ (match kn with
    | 0 => Cond.methodLink own idx y.1 ∈ jT ∧ Cond.instanceMethod y.1 ∈ jT ∧ Cond.selects y.1.cls y.1 y.1 ∈ jT
    | 1 => (∃ host, Cond.methodLinkNest own idx y.1 host ∈ jT) ∧ Cond.instanceMethod y.1 ∈ jT ∧ Cond.selects y.1.cls y.1 y.1 ∈ jT
    | 2 => Cond.methodLink own idx y.1 ∈ jT ∧ Cond.static y.1 ∈ jT
    | 3 => (∃ host, Cond.methodLinkNest own idx y.1 host ∈ jT) ∧ Cond.static y.1 ∈ jT
    | 4 => Cond.methodLink own idx y.1 ∈ jT ∧ Cond.instanceMethod y.1 ∈ jT ∧ y.1.name = "<init>"
    | _ => (∃ host, Cond.methodLinkNest own idx y.1 host ∈ jT) ∧ Cond.instanceMethod y.1 ∈ jT ∧ y.1.name = "<init>")
theorem SFs.same {w0 : WT} {A : Nat → Prop} {u U : State} {H : Heap} (hv : U.vm = u.vm) (h : SFs w0 A u H) : SFs w0 A U H := by
  obtain ⟨h1, h2, h3, h4⟩ := h
  have ha : u.vm.Alike U.vm := by rw [hv]; exact Vm.Alike.refl u.vm
  exact ⟨h1.same hv, h2.moved ha, h3.moved ha, h4.moved ha⟩
theorem PJ_blind {G : GT} {cA : Nat → ClassId} {D : va_G} {w0 : WT} {A : Nat → Prop} {sz : Nat} {ad : Nat → Nat} {h : AH} {av : List Value} : FrameBlind (va_Pc av (PJ G cA D w0 A sz ad h)) := by
  intro a U g mk q
  obtain ⟨q0, q1, q2, q3, q4, q5, q6⟩ := q
  exact ⟨q0, q1, q2, va_K.moved (u := U) (U := U.calling g mk a) (Vm.Alike.refl U.vm) q3, q4, q5.same rfl, fun w hw hk => keep_same (u := U) hk rfl (q6 w hw hk)⟩
section ROWD
variable {G : GT} {d b b1 b2 : Nat} {y y' : Mth} {Q : Option AV → AH → Prop} {pc : Nat} {loc loc' : List (Option AV)} {st : List AV} {h : AH}
theorem cv_kept {w0 : WT} {ad ad' : Nat → Nat} {v : AV} (hv : OkV h v) (e : ∀ k, k < hn h → ad' k = ad k) : cv w0 ad' v = cv w0 ad v := by
  rcases v with i | i | r | u
  · rfl
  · rfl
  · exact congrArg va_rf (map_ad fun k z => e k (hv k z))
  · rfl
theorem cv_keptL {w0 : WT} {ad ad' : Nat → Nat} {l : List AV} (hv : ∀ v ∈ l, OkV h v) (e : ∀ k, k < hn h → ad' k = ad k) : l.map (cv w0 ad') = l.map (cv w0 ad) := List.map_congr_left fun v z => cv_kept (hv v z) e
/-- behind a call -/
theorem J_run {rest : List AV} {p : Program} {l : Launch} {e : Env} {s : State} {m : MethodId} {args : Array Value} {below : List Frame} {meth : Method} {c : Code} {D : va_G} {cA : Nat → ClassId} {w0 : WT} {A : Nat → Prop} {B n0 : Nat} {ad0 ad : Nat → Nat} {H : Heap} {ls : Array Slot} {locs : List Loc} {cells slots : Nat} {st0 : List Value} {aa : Array Value}
    (C : CJ G (b1 + b2) y loc st h p s m args meth c D cA w0 A B n0 ad0 ad H ls locs cells slots) (hrest : ∀ v ∈ rest, OkV h v)
    (hr : va_Run p l e (rmJ d B) s m args below meth c H locs cells slots b1 b1 (F0 m pc ls st0) (rest.map (cv w0 ad)) (QJ G cA D w0 (va_A (cw cA ad h) H.size) (hn h) ad (fun r h' => J G d b2 y Q (pc + 3) loc (r.toList ++ rest) h') aa) (va_A (cw cA ad h) H.size)) :
    W p l e (rmJ d B) s m args below meth c H locs cells slots (MQ below (QJ G cA D w0 A n0 ad0 Q) args s B B A) (F0 m pc ls st0) := by
  obtain ⟨hE, hK, hA, hSF, hP, hD, hS, hO, hG, hst, hlo, hL, had, hn0, hc, hs⟩ := id C
  intro T hT X
  obtain ⟨v, st₀, t, T', L, h0, X', hL1, e1, e2, hq, go⟩ := hr T hT X
  obtain ⟨r, h', ad', hr', hadk, hnn, p1, d1, o1, g1, okr, vf, K⟩ := hq
  have hv : v = r.map (cv w0 ad') := by cases hr'; rfl
  subst hv
  have hAA : ∀ q, va_A (cw cA ad h) H.size q → A q := fun q z => by
    rcases z with ⟨k, e, z⟩ | z
    · exact hD.2 k (q, e) z
    · exact hA q (Nat.le_trans hS.1 z)
  have vf2 : H.size ≤ t.heap.size ∧ ∀ q : Nat, q < H.size → ¬ va_A (cw cA ad h) H.size q → t.heap[q]? = H[q]? := by
    have := vf
    unfold va_F at this
    rw [h0] at this
    exact this
  have K2 := K p l e s m args below meth c D cA w0 A B n0 ad0 ad' t.heap ls (locs ++ L) (cells + b1) (slots + b1)
    ⟨hE, hK, hA, hSF, p1, d1.weaken (fun k q _ z => hAA q.1 z), ⟨Nat.le_trans hS.1 vf2.1, fun q z1 z2 => by rw [vf2.2 q (Nat.lt_of_lt_of_le z1 hS.1) (fun z => z2 (hAA q z))]; exact hS.2.1 q z1 z2, fun q hq => by
      rcases List.mem_append.mp hq with z | z
      · exact hS.2.2 q z
      · exact hAA _ (hL1 q z)⟩, o1, g1, fun v z => by
      rcases List.mem_append.mp z with z | z
      · exact okr v (by cases r with
          | none => cases z
          | some x => simp at z; rw [z])
      · exact (hrest v z).to hnn, fun v z => (hlo v z).to hnn, ⟨hL.1, hL.2.1, hL.2.2.1, fun i v z => by rw [cv_kept (ok_loc hlo z) hadk]; exact hL.2.2.2 i v z⟩, fun k z => by rw [hadk k (by omega)]; exact had k z, by omega, by omega, by omega⟩
  have e3 : (r.toList ++ rest).map (cv w0 ad') = (r.map (cv w0 ad')).toList ++ rest.map (cv w0 ad) := by
    rw [List.map_append, cv_keptL hrest hadk]
    cases r <;> rfl
  rw [e3] at K2
  obtain ⟨t2, a1, b1⟩ := K2 T' e1 X'
  exact ⟨t2, go t2 a1, b1⟩
/-- a callee's start -/
theorem J_pre {vs : List AV} {p : Program} {s : State} {m : MethodId} {args : Array Value} {meth : Method} {c : Code} {D : va_G} {cA : Nat → ClassId} {w0 : WT} {A : Nat → Prop} {B n0 : Nat} {ad0 ad : Nat → Nat} {H : Heap} {ls : Array Slot} {locs : List Loc} {cells slots : Nat}
    (C : CJ G b y loc st h p s m args meth c D cA w0 A B n0 ad0 ad H ls locs cells slots) (U : State) (hU : U.heap = H) (hW : s.WarmedH U.vm) : va_Pc (vs.map (cv w0 ad)) (PJ G cA D w0 (va_A (cw cA ad h) H.size) H.size ad h) (vs.map (cv w0 ad)).toArray U := by
  obtain ⟨hE, hK, hA, hSF, hP, hD, hS, hO, hG, hst, hlo, hL, had, hn0, hc, hs⟩ := id C
  have hAA : ∀ q, va_A (cw cA ad h) H.size q → A q := fun q z => by
    rcases z with ⟨k, e, z⟩ | z
    · exact hD.2 k (q, e) z
    · exact hA q (Nat.le_trans hS.1 z)
  refine ⟨rfl, by rw [hU], by rw [hU]; exact hP, va_K.moved hW.alike hK, hD.weaken (fun _ _ _ _ => trivial), ?_, fun w hw hk => keep_warm hk hW (keep_args hk (hE.2.2.2.2.1 w hw))⟩
  rw [hU]
  exact ((hSF.kept (H1 := H) (fun q z1 z2 => hS.2.1 q z1 z2)).narrow hAA).warm hW
theorem csum4 {w0 : WT} {ad : Nat → Nat} {rest : List AV} (h4 : rest.length ≤ 4) : ((rest.map (cv w0 ad)).map fun v => v.category).sum ≤ 8 := by
  have := csum_le w0 ad rest
  omega
theorem mapRev {w0 : WT} {ad : Nat → Nat} {vs rest : List AV} {o : Nat} : (vs.reverse ++ vR (some o) :: rest).map (cv w0 ad) = (vs.map (cv w0 ad)).reverse ++ .ref (ad o) :: rest.map (cv w0 ad) := by
  rw [List.map_append, List.map_reverse, List.map_cons, cv_R]
theorem mapRevS {w0 : WT} {ad : Nat → Nat} {vs rest : List AV} : (vs.reverse ++ rest).map (cv w0 ad) = (vs.map (cv w0 ad)).reverse ++ rest.map (cv w0 ad) := by
  rw [List.map_append, List.map_reverse]
theorem J_callV {o ci idx np kn : Nat} {q : vw_C} {vs rest : List AV} (hkn : kn = 0 ∨ kn = 1) (ml : ML kn y.1.cls idx y' np) (hv : vs.length = np) (hmL : y'.2.2.1 ≤ 45) (hq : vwCl[ci]? = some q) (hcl : q.1 = y'.1.cls) (hk : Kd G h o (.inl ci)) (h4 : rest.length ≤ 4) (hst0 : st = vs.reverse ++ vR (some o) :: rest) (hd : decode y.2.1 pc = .ok (.invokevirtual idx, 3))
    (hM : WM G d b1 y' (vR (some o) :: vs) h (fun r h' => J G (d + 1) b2 y Q (pc + 3) loc (r.toList ++ rest) h')) : J G (d + 1) (b1 + b2) y Q pc loc st h := by
  subst hst0
  intro p l e s m args below meth c D cA w0 A B n0 ad0 ad H ls locs cells slots C
  obtain ⟨⟨hx, hb, hml, hr, hts, hown, hnm, hlk⟩, hK, hA, hSF, hP, hD, hS, hO, hG, hst, hlo, hL, had, hn0, hc, hs⟩ := id C
  obtain ⟨hk1, hk2⟩ := hk.use hG
  have hvs : ∀ v ∈ vR (some o) :: vs, OkV h v := fun v z => hst v (by
    rcases List.mem_cons.mp z with z | z
    · rw [z]; simp
    · simp [z])
  have hrest : ∀ v ∈ rest, OkV h v := fun v z => hst v (by simp [z])
  have hM1 := hM l D cA w0 H.size ad hO hG hvs
  obtain ⟨m1, m2, m3, m4⟩ := ml
  have hrecv := va_recv (q := q) hK hP hq (show (cw cA ad h)[o]? = some (ad o, .inr (ci, _)) by rw [cw_get hk2, ce_obj hk1])
  have hroom : (rmJ d b1).frames + 1 ≤ (rmJ (d + 1) B).frames ∧ 8 + (y'.2.2.1 + 11) + (rmJ d b1).locals ≤ (rmJ (d + 1) B).locals := ⟨Nat.le_refl _, by show _ + 64 * d ≤ 64 * (d + 1); omega⟩
  have hf : cells + b1 ≤ (rmJ (d + 1) B).cells ∧ slots + b1 ≤ (rmJ (d + 1) B).slots := ⟨by show _ ≤ B; omega, by show _ ≤ B; omega⟩
  have hlen : (vs.map (cv w0 ad)).length = np := by rw [List.length_map, hv]
  rw [mapRev]
  refine J_run (aa := (Value.ref (ad o) :: vs.map (cv w0 ad)).toArray) C hrest ?_
  rcases hkn with z | z <;> subst z
  · obtain ⟨k1, k2, k3⟩ := m4
    exact va_runV (As := vs.map (cv w0 ad)) (rest := rest.map (cv w0 ad)) ⟨hx, hb, hml, hown, hts⟩ hM1 ⟨callB_of np hts (lw_gd m1) rfl rfl rfl (hts _ m2) (hts _ k1) m3 hroom, hts _ k2, hts _ k3⟩ ⟨PJ_blind, hcl ▸ hrecv, fun U hU hW => J_pre (vs := vR (some o) :: vs) C U hU hW⟩ rfl hlen hL.1 rfl (lv_room (csum4 h4)) hd hf
  · obtain ⟨⟨host, k1⟩, k2, k3⟩ := m4
    exact va_runVN (As := vs.map (cv w0 ad)) (rest := rest.map (cv w0 ad)) ⟨hx, hb, hml, hown, hts⟩ hM1 ⟨va_cnB np hts (lw_gd m1) rfl rfl rfl (va_Nw.of rfl (hts _ k1)) (hts _ m2) m3 hroom, hts _ k2, hts _ k3⟩ ⟨PJ_blind, hcl ▸ hrecv, fun U hU hW => J_pre (vs := vR (some o) :: vs) C U hU hW⟩ rfl hlen hL.1 rfl (lv_room (csum4 h4)) hd hf
theorem J_callS {idx np kn : Nat} {vs rest : List AV} (hkn : kn = 2 ∨ kn = 3) (ml : ML kn y.1.cls idx y' np) (hv : vs.length = np) (hmL : y'.2.2.1 ≤ 45) (h4 : rest.length ≤ 4) (hst0 : st = vs.reverse ++ rest) (hd : decode y.2.1 pc = .ok (.invokestatic idx, 3))
    (hM : WM G d b1 y' vs h (fun r h' => J G (d + 1) b2 y Q (pc + 3) loc (r.toList ++ rest) h')) : J G (d + 1) (b1 + b2) y Q pc loc st h := by
  subst hst0
  intro p l e s m args below meth c D cA w0 A B n0 ad0 ad H ls locs cells slots C
  obtain ⟨⟨hx, hb, hml, hr, hts, hown, hnm, hlk⟩, hK, hA, hSF, hP, hD, hS, hO, hG, hst, hlo, hL, had, hn0, hc, hs⟩ := id C
  have hvs : ∀ v ∈ vs, OkV h v := fun v z => hst v (by simp [z])
  have hrest : ∀ v ∈ rest, OkV h v := fun v z => hst v (by simp [z])
  have hM1 := hM l D cA w0 H.size ad hO hG hvs
  obtain ⟨m1, m2, m3, m4⟩ := ml
  have hroom : (rmJ d b1).frames + 1 ≤ (rmJ (d + 1) B).frames ∧ 8 + (y'.2.2.1 + 11) + (rmJ d b1).locals ≤ (rmJ (d + 1) B).locals := ⟨Nat.le_refl _, by show _ + 64 * d ≤ 64 * (d + 1); omega⟩
  have hf : cells + b1 ≤ (rmJ (d + 1) B).cells ∧ slots + b1 ≤ (rmJ (d + 1) B).slots := ⟨by show _ ≤ B; omega, by show _ ≤ B; omega⟩
  have hlen : (vs.map (cv w0 ad)).length = np := by rw [List.length_map, hv]
  rw [mapRevS]
  refine J_run (aa := (vs.map (cv w0 ad)).toArray) C hrest ?_
  rcases hkn with z | z <;> subst z
  · obtain ⟨k1, k2⟩ := m4
    exact va_runS (As := vs.map (cv w0 ad)) (rest := rest.map (cv w0 ad)) ⟨hx, hb, hml, hown, hts⟩ hM1 ⟨callB_of np hts (lw_gd m1) rfl rfl rfl (hts _ m2) (hts _ k1) m3 hroom, hts _ k2⟩ ⟨PJ_blind, fun U hU hW => J_pre (vs := vs) C U hU hW⟩ rfl hlen hL.1 rfl (lv_room (csum4 h4)) hd hf
  · obtain ⟨⟨host, k1⟩, k2⟩ := m4
    exact va_runSN (As := vs.map (cv w0 ad)) (rest := rest.map (cv w0 ad)) ⟨hx, hb, hml, hown, hts⟩ hM1 ⟨va_cnB np hts (lw_gd m1) rfl rfl rfl (va_Nw.of rfl (hts _ k1)) (hts _ m2) m3 hroom, hts _ k2, trivial⟩ ⟨PJ_blind, fun U hU hW => J_pre (vs := vs) C U hU hW⟩ rfl hlen hL.1 rfl (lv_room (csum4 h4)) hd hf
theorem J_callI {o idx np kn : Nat} {vs rest : List AV} (hkn : kn = 4 ∨ kn = 5) (ml : ML kn y.1.cls idx y' np) (hv : vs.length = np) (hret : y'.2.2.2 = none) (hmL : y'.2.2.1 ≤ 45) (h4 : rest.length ≤ 4) (hst0 : st = vs.reverse ++ vR (some o) :: rest) (hd : decode y.2.1 pc = .ok (.invokespecial idx, 3))
    (hM : WM G d b1 y' (vR (some o) :: vs) h (fun r h' => J G (d + 1) b2 y Q (pc + 3) loc (r.toList ++ rest) h')) : J G (d + 1) (b1 + b2) y Q pc loc st h := by
  subst hst0
  intro p l e s m args below meth c D cA w0 A B n0 ad0 ad H ls locs cells slots C
  obtain ⟨⟨hx, hb, hml, hr, hts, hown, hnm, hlk⟩, hK, hA, hSF, hP, hD, hS, hO, hG, hst, hlo, hL, had, hn0, hc, hs⟩ := id C
  have hvs : ∀ v ∈ vR (some o) :: vs, OkV h v := fun v z => hst v (by
    rcases List.mem_cons.mp z with z | z
    · rw [z]; simp
    · simp [z])
  have hrest : ∀ v ∈ rest, OkV h v := fun v z => hst v (by simp [z])
  have hM1 := hM l D cA w0 H.size ad hO hG hvs
  obtain ⟨y1, y2, y3, y4⟩ := y'
  dsimp only at hret hmL hM1
  subst hret
  obtain ⟨m1, m2, m3, m4⟩ := ml
  have hroom : (rmJ d b1).frames + 1 ≤ (rmJ (d + 1) B).frames ∧ 8 + (y3 + 11) + (rmJ d b1).locals ≤ (rmJ (d + 1) B).locals := ⟨Nat.le_refl _, by show _ + 64 * d ≤ 64 * (d + 1); omega⟩
  have hf : cells + b1 ≤ (rmJ (d + 1) B).cells ∧ slots + b1 ≤ (rmJ (d + 1) B).slots := ⟨by show _ ≤ B; omega, by show _ ≤ B; omega⟩
  have hlen : (vs.map (cv w0 ad)).length = np := by rw [List.length_map, hv]
  rw [mapRev]
  refine J_run (aa := (Value.ref (ad o) :: vs.map (cv w0 ad)).toArray) C hrest ?_
  rcases hkn with z | z <;> subst z
  · obtain ⟨k1, k2, k3⟩ := m4
    exact va_runI (As := vs.map (cv w0 ad)) (rest := rest.map (cv w0 ad)) ⟨hx, hb, hml, hown, hts⟩ hM1 ⟨callB_of np hts (lw_gd m1) rfl rfl rfl (hts _ m2) (hts _ k1) m3 hroom, k3, hts _ k2⟩ ⟨PJ_blind, fun U hU hW => J_pre (vs := vR (some o) :: vs) C U hU hW⟩ rfl hlen hL.1 rfl (lv_room (csum4 h4)) hd hf
  · obtain ⟨⟨host, k1⟩, k2, k3⟩ := m4
    exact va_runIN (As := vs.map (cv w0 ad)) (rest := rest.map (cv w0 ad)) ⟨hx, hb, hml, hown, hts⟩ hM1 ⟨va_cnB np hts (lw_gd m1) rfl rfl rfl (va_Nw.of rfl (hts _ k1)) (hts _ m2) m3 hroom, k3, hts _ k2⟩ ⟨PJ_blind, fun U hU hW => J_pre (vs := vR (some o) :: vs) C U hU hW⟩ rfl hlen hL.1 rfl (lv_room (csum4 h4)) hd hf
theorem J_b0 (k : J G d (0 + b) y Q pc loc st h) : J G d b y Q pc loc st h := by rwa [Nat.zero_add] at k
theorem J_bw {b' : Nat} (hb : b' ≤ b) (k : J G d b' y Q pc loc st h) : J G d b y Q pc loc st h := by
  intro p l e s m args below meth c D cA w0 A B n0 ad0 ad H ls locs cells slots C
  obtain ⟨c1, c2, c3, c4, c5, c6, c7, c8, c9, c10, c11, c12, c13, c14, c15, c16⟩ := C
  exact k p l e s m args below meth c D cA w0 A B n0 ad0 ad H ls locs cells slots ⟨c1, c2, c3, c4, c5, c6, c7, c8, c9, c10, c11, c12, c13, c14, by omega, by omega⟩
theorem lgl {w0 : WT} {ad : Nat → Nat} (vs : List AV) : (lg_sl (vs.map (cv w0 ad))).length = (locA vs).length := by
  induction vs with
  | nil => rfl
  | cons v r ih =>
    unfold lg_sl at ih ⊢
    rw [List.map_cons, List.flatMap_cons, List.length_append, ih]
    rw [show locA (v :: r) = if isL (some v) then some v :: none :: locA r else some v :: locA r from rfl]
    by_cases hl : isL (some v) = true
    · rw [if_pos (cat_cvL hl), if_pos hl]
      simp
      omega
    · rw [if_neg (by rw [cat_cv (by simpa using hl)]; decide), if_neg hl]
      simp
      omega
theorem locA_in {w0 : WT} {ad : Nat → Nat} (vs : List AV) : ∀ (k i : Nat) (v : AV), (locA vs)[i]? = some (some v) → (k + i, cv w0 ad v) ∈ lv_args k (vs.map (cv w0 ad)) := by
  induction vs with
  | nil => intro k i v hi; simp [locA] at hi
  | cons u r ih =>
    intro k i v hi
    rw [show locA (u :: r) = if isL (some u) then some u :: none :: locA r else some u :: locA r from rfl] at hi
    rw [List.map_cons, show lv_args k (cv w0 ad u :: r.map (cv w0 ad)) = (k, cv w0 ad u) :: lv_args (if (cv w0 ad u).category = 2 then k + 2 else k + 1) (r.map (cv w0 ad)) from rfl]
    by_cases hl : isL (some u) = true
    · rw [if_pos hl] at hi
      rw [if_pos (cat_cvL hl)]
      match i, hi with
      | 0, hi => cases hi; exact List.mem_cons_self
      | 1, hi => cases hi
      | j + 2, hi =>
        have := ih (k + 2) j v (by simpa using hi)
        rw [show k + 2 + j = k + (j + 2) by omega] at this
        exact List.mem_cons_of_mem _ this
    · rw [if_neg hl] at hi
      rw [if_neg (by rw [cat_cv (by simpa using hl)]; decide)]
      match i, hi with
      | 0, hi => cases hi; exact List.mem_cons_self
      | j + 1, hi =>
        have := ih (k + 1) j v (by simpa using hi)
        rw [show k + 1 + j = k + (j + 1) by omega] at this
        exact List.mem_cons_of_mem _ this
theorem locA_ok {vs : List AV} : ∀ v, some v ∈ locA vs → v ∈ vs := by
  induction vs with
  | nil => intro v h; simp [locA] at h
  | cons u r ih =>
    intro v hv
    rw [show locA (u :: r) = if isL (some u) then some u :: none :: locA r else some u :: locA r from rfl] at hv
    split at hv <;> simp at hv
    · rcases hv with z | z
      · rw [z]; exact List.mem_cons_self
      · exact List.mem_cons_of_mem _ (ih v z)
    · rcases hv with z | z
      · rw [z]; exact List.mem_cons_self
      · exact List.mem_cons_of_mem _ (ih v z)
theorem locE_R {w0 : WT} {ad : Nat → Nat} {vs : List AV} {n : Nat} (hn : (locA vs).length ≤ n) : LocR w0 ad ((lg_sl (vs.map (cv w0 ad)) ++ List.replicate (n - (lg_sl (vs.map (cv w0 ad))).length) Slot.unset).toArray) n (locE vs n) := by
  have hh := lv_entry (vs.map (cv w0 ad)) (n := n) (by rw [lgl]; exact hn)
  refine ⟨hh.1, hh.2.1, by unfold locE; simp; omega, fun i v hi => ?_⟩
  unfold locE at hi
  have hlt : i < (locA vs).length := by
    by_cases hz : i < (locA vs).length
    · exact hz
    · rw [List.getElem?_append_right (by omega), List.getElem?_replicate] at hi
      split at hi <;> cases hi
  rw [List.getElem?_append_left hlt] at hi
  have := locA_in (w0 := w0) (ad := ad) vs 0 i v hi
  rw [Nat.zero_add] at this
  exact hh.2.2 _ this
/-- a contract out of the body -/
theorem WM_intro {vs : List AV} (hpl : plainName y.1.cls = true) (hlen : (locA vs).length ≤ y.2.2.1) (k : J G d b y Q 0 (locE vs y.2.2.1) [] h) : WM G d b y vs h Q := by
  intro l D cA w0 sz ad hO hG hvs
  refine Met.ofW (cc := y.2.1) (maxL := y.2.2.1) (ret := y.2.2.2) hpl rfl ?_
  intro p e s m args below meth c s₁ B hml hv
  obtain ⟨rfl, hsz, hP, hK, hD0, hSF, hkw⟩ := hv
  have hts := atoms_spec (ws := wsJ y) B.pre
  subst hsz
  have hl := locE_R (w0 := w0) (ad := ad) hlen
  rw [lg_entry_eq]
  refine k p l e s m _ below meth c D cA w0 (va_A (cw cA ad h) s.heap.size) b (hn h) ad ad s.heap _ [] 0 0 ⟨⟨B.exec, B.bytes, hml, B.returns, (fun w hw => ?_), findClass_of_methodNamed B.named, (name_of_methodNamed B.named B.method).1, B.notSynchronized⟩, hK, fun q z => Or.inr z, hSF, hP, hD0.self, va_S.rf, hO, hG, (fun v z => absurd z List.not_mem_nil), (fun v z => ?_), hl, fun _ _ => rfl, Nat.le_refl _, by omega, by omega⟩
  · obtain ⟨e1, e2⟩ := List.mem_filter.mp hw
    unfold okW at e2
    rcases (Bool.or_eq_true _ _).mp e2 with e3 | e3
    · exact hts w (List.mem_cons_of_mem _ (List.mem_filter.mpr ⟨e1, e3⟩))
    · exact keep_args e3 (hkw w hw e3)
  unfold locE at z
  rcases List.mem_append.mp z with z | z
  · exact hvs v (locA_ok v z)
  · have := List.eq_of_mem_replicate z
    cases this
theorem WM_mono {Q1 Q2 : Option AV → AH → Prop} {vs : List AV} (k : WM G d b y vs h Q1) (m : ∀ r h', Q1 r h' → Q2 r h') : WM G d b y vs h Q2 := by
  intro l D cA w0 sz ad hO hG hvs p e ha hc hk s mm args below hf happ hP hT
  obtain ⟨n, o, a1, a2, a3, ⟨r, h', ad', q1, q2, q3, q4, q5, q6, q7, q8, q9, q10⟩, a5⟩ := k l D cA w0 sz ad hO hG hvs p e ha hc hk s mm args below hf happ hP hT
  exact ⟨n, o, a1, a2, a3, ⟨r, h', ad', q1, q2, q3, q4, q5, q6, q7, q8, q9, m r h' q10⟩, a5⟩
end ROWD
