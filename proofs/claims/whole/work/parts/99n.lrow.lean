/-! THE CLAIM OUT OF ONE WALK OF THE LAW'S BODY. Your part is whole_start (and what it stands on); all else here is the same for every law, but numbers. -/
def R_law : String := "DoorFleetLaw"
def lw_P (b : Addr) (xs : List Int32) (args : Array Value) (s : State) : Prop := args = #[.ref b] ∧ s.IntsAt b xs ∧ xs.length ≤ 3072 ∧ (Jvm.Cond.and given_1 narrow_1).before args s = true
def lw_Q (_ : Array Value) (s : State) (o : Outcome) (t : State) : Prop := o = .returned (some (.int 1)) ∧ Framed s o t [] 600000 7302250
def lw_Z (below : List Frame) (a : Array Value) (s : State) : State → Prop := fun t => ∃ o, t.status = .running ∧ Ended t below o ∧ lw_Q a s o t
/-- the law's own end, with 1 on the stack, nothing written that was there before, its room as the claim has it -/
theorem lw_ret {p : Program} {l : Launch} {e : Env} {s : State} {m : MethodId} {below : List Frame} {meth : Method} {c : Code} {b : Nat} (hx : p.tables.exec = Jvm.exec) (hb : c.code = code) (hr : meth.sig.returnType = ret) (hlocks : meth.locks = false) {pc : Nat} {H : Heap} {ls : Array Slot} (hdg : decode code pc = .ok (.ireturn, 1)) : W p l e room_1 s m #[Value.ref b] below meth c H [] 600000 7302250 (lw_Z below #[Value.ref b] s) (F0 m pc ls [.int 1]) := by
  intro T hT X
  obtain ⟨fs, hret, hrun, hended, hW, hframe⟩ := X.leave (v := some (.int 1)) (hlocks := hlocks) (fun h => by rw [hr] at h; cases h)
  have hmeth' : T.vm.method? m = some meth := X.method'
  refine ⟨T.setFrames fs, ?_, .returned (some (.int 1)), hrun, hended, rfl, ⟨_, rfl⟩, hW, hframe⟩
  jvm_step X.here [X.here.top, hx, hb, hdg, hmeth', hr, ret, narrow_b1]
  (try refine ⟨rfl, ?_⟩); (try refine ⟨rfl, ?_⟩)
  first | (intro acts; rw [hret _ acts rfl rfl rfl]) | rw [hret _ _ rfl rfl rfl]
  exact Steps.refl _
/-- what holds at the law's entry: the machine, the code, the tables' words (any of lw_tbl by 'hts w (by decide +kernel)'), the script of L ints xs at the cell b, what the Statement gives of the start (any of its parts by flat_of_before) -/
def lw_At (p : Program) (s : State) (m : MethodId) (meth : Method) (c : Code) (b L : Nat) (xs : Nat → Int32) : Prop :=
  p.tables.exec = Jvm.exec ∧ c.code = code ∧ meth.sig.returnType = ret ∧ c.maxLocals = 4 ∧ s.vm.findClass R_law = some m.cls ∧ (∀ w ∈ lw_tbl, w.before #[Value.ref b] s = true) ∧ va_X b L xs s s.heap ∧ b < s.heap.size ∧ meth.locks = false ∧ (Jvm.Cond.and given_1 narrow_1).before #[Value.ref b] s = true
/-! THE LAW'S OWN ROWS: two heaps side by side -/
def Apt (w1 w2 : va_W) : Prop := ∀ (i j : Nat) (p q : Nat × va_E), w1[i]? = some p → w2[j]? = some q → p.1 ≠ q.1
theorem Apt.symm {w1 w2 : va_W} (h : Apt w1 w2) : Apt w2 w1 := fun i j p q e1 e2 e => h j i q p e2 e1 e.symm
abbrev Ag (s : State) : Nat → Prop := fun q => s.heap.size ≤ q
section LROW
variable {p : Program} {l : Launch} {e : Env} {s : State} {m : MethodId} {below : List Frame} {meth : Method} {c : Code} {b L : Nat} {xs : Nat → Int32} {D : va_G} {cA : Nat → ClassId} {w0 : WT} {aX aM : Nat}
/-- what the law stands on, from its entry on -/
abbrev LwE (p : Program) (s : State) (m : MethodId) (meth : Method) (c : Code) (b L : Nat) (xs : Nat → Int32) (D : va_G) (cA : Nat → ClassId) (w0 : WT) : Prop := lw_At p s m meth c b L xs ∧ L ≤ 3072 ∧ va_K D vwCl (tysJ cA) s ∧ SFs w0 (Ag s) s s.heap
/-- both worlds -/
def LC (s : State) (D : va_G) (cA : Nat → ClassId) (w0 : WT) (aX aM : Nat) (GA GB : GT) (N : Nat) (loc : List (Nat × Value)) (hX hM : AH) (adX adM : Nat → Nat) (H : Heap) (ls : Array Slot) (locs : List Loc) (cells slots : Nat) : Prop :=
  va_P D vwCl (cw cA adX hX) H ∧ va_P D vwCl (cw cA adM hM) H ∧ va_D (Ag s) (cw cA adX hX) ∧ va_D (Ag s) (cw cA adM hM) ∧ Apt (cw cA adX hX) (cw cA adM hM) ∧ va_S (Ag s) s.heap H locs ∧ OkH hX ∧ OkH hM ∧ Gd GA hX ∧ Gd GB hM ∧ (0 < hn hX → adX 0 = aX) ∧ (0 < hn hM → adM 0 = aM) ∧ lv_has ls 4 loc ∧ cells ≤ N ∧ slots ≤ N
abbrev LWk (p : Program) (l : Launch) (e : Env) (s : State) (m : MethodId) (below : List Frame) (meth : Method) (c : Code) (b : Nat) (H : Heap) (locs : List Loc) (cells slots : Nat) (g : JFrame) : Prop := W p l e room_1 s m #[Value.ref b] below meth c H locs cells slots (lw_Z below #[Value.ref b] s) g
/-- from here on the law comes to its end with 1 -/
def LJ (p : Program) (l : Launch) (e : Env) (s : State) (m : MethodId) (below : List Frame) (meth : Method) (c : Code) (b : Nat) (D : va_G) (cA : Nat → ClassId) (w0 : WT) (aX aM : Nat) (GA GB : GT) (N pc : Nat) (loc : List (Nat × Value)) (st : List Value) (hX hM : AH) : Prop :=
  ∀ (adX adM : Nat → Nat) (H : Heap) (ls : Array Slot) (locs : List Loc) (cells slots : Nat), LC s D cA w0 aX aM GA GB N loc hX hM adX adM H ls locs cells slots → LWk p l e s m below meth c b H locs cells slots (F0 m pc ls st)
theorem jT_tbl {w : Cond} (h : w ∈ jT) : w ∈ lw_tbl := (List.mem_filter.mp h).1
/-- behind a call of the law -/
theorem lw_run {G : GT} {b1 : Nat} {h : AH} {ad : Nat → Nat} {wb : va_W} {Q : Option AV → AH → Prop} {H : Heap} {ls : Array Slot} {locs : List Loc} {cells slots pc : Nat} {st0 rest : List Value} {aa : Array Value}
    (P1 : va_P D vwCl (cw cA ad h) H) (P2 : va_P D vwCl wb H) (D1 : va_D (Ag s) (cw cA ad h)) (ap : Apt (cw cA ad h) wb) (hS : va_S (Ag s) s.heap H locs)
    (kk : ∀ (r : Option AV) (h' : AH) (ad' : Nat → Nat) (H' : Heap) (locs' : List Loc), Q r h' → (∀ k, k < hn h → ad' k = ad k) → hn h ≤ hn h' → va_P D vwCl (cw cA ad' h') H' → va_P D vwCl wb H' → va_D (Ag s) (cw cA ad' h') → Apt (cw cA ad' h') wb → va_S (Ag s) s.heap H' locs' → OkH h' → Gd G h' → LWk p l e s m below meth c b H' locs' (cells + b1) (slots + b1) (F0 m (pc + 3) ls ((r.map (cv w0 ad')).toList ++ rest)))
    (hr : va_Run p l e room_1 s m #[Value.ref b] below meth c H locs cells slots b1 b1 (F0 m pc ls st0) rest (QJ G cA D w0 (va_A (cw cA ad h) H.size) (hn h) ad Q aa) (va_A (cw cA ad h) H.size)) :
    LWk p l e s m below meth c b H locs cells slots (F0 m pc ls st0) := by
  intro T hT X
  obtain ⟨v, st₀, t, T', L, h0, X', hL1, e1, e2, hq, go⟩ := hr T hT X
  obtain ⟨r, h', ad', hr', hadk, hnn, p1, d1, o1, g1, okr, vf, K⟩ := hq
  have hv : v = r.map (cv w0 ad') := by cases hr'; rfl
  subst hv
  have hAA : ∀ q, va_A (cw cA ad h) H.size q → Ag s q := fun q z => by
    rcases z with ⟨k, e, z⟩ | z
    · exact D1.2 k (q, e) z
    · exact Nat.le_trans hS.1 z
  have vf2 : H.size ≤ t.heap.size ∧ ∀ q : Nat, q < H.size → ¬ va_A (cw cA ad h) H.size q → t.heap[q]? = H[q]? := by
    have := vf
    unfold va_F at this
    rw [h0] at this
    exact this
  have hnA : ∀ (k : Nat) (q : Nat × va_E), wb[k]? = some q → ¬ va_A (cw cA ad h) H.size q.1 := fun k q hk z => by
    rcases z with ⟨j, e, z⟩ | z
    · exact ap j k (q.1, e) q z hk rfl
    · exact absurd (P2 k q hk).lt (Nat.not_lt.mpr z)
  have p2 : va_P D vwCl wb t.heap := P2.kept (fun k q hk => vf2.2 q.1 (P2 k q hk).lt (hnA k q hk))
  have ap2 : Apt (cw cA ad' h') wb := fun i j x y ex ey exy => hnA j y ey (exy ▸ d1.2 i x ex)
  have hS2 : va_S (Ag s) s.heap t.heap (locs ++ L) := ⟨Nat.le_trans hS.1 vf2.1, fun q z1 z2 => by rw [vf2.2 q (Nat.lt_of_lt_of_le z1 hS.1) (fun z => z2 (hAA q z))]; exact hS.2.1 q z1 z2, fun q hq => by
    rcases List.mem_append.mp hq with z | z
    · exact hS.2.2 q z
    · exact hAA _ (hL1 q z)⟩
  obtain ⟨t2, a1, b1⟩ := kk r h' ad' t.heap (locs ++ L) K hadk hnn p1 p2 (d1.weaken (fun k q _ z => hAA q.1 z)) ap2 hS2 o1 g1 T' e1 X'
  exact ⟨t2, go t2 a1, b1⟩
/-- a callee's start -/
theorem lw_pre {G : GT} {h : AH} {ad : Nat → Nat} {H : Heap} {locs : List Loc} {vs : List AV} (C : LwE p s m meth c b L xs D cA w0) (P1 : va_P D vwCl (cw cA ad h) H) (D1 : va_D (Ag s) (cw cA ad h)) (hS : va_S (Ag s) s.heap H locs) (U : State) (hU : U.heap = H) (hW : s.WarmedH U.vm) : va_Pc (vs.map (cv w0 ad)) (PJ G cA D w0 (va_A (cw cA ad h) H.size) H.size ad h) (vs.map (cv w0 ad)).toArray U := by
  obtain ⟨C0, hL3, hK, hSF⟩ := C
  have hAA : ∀ q, va_A (cw cA ad h) H.size q → Ag s q := fun q z => by
    rcases z with ⟨k, e, z⟩ | z
    · exact D1.2 k (q, e) z
    · exact Nat.le_trans hS.1 z
  refine ⟨rfl, by rw [hU], by rw [hU]; exact P1, va_K.moved hW.alike hK, D1.weaken (fun _ _ _ _ => trivial), ?_, fun w hw hk => keep_warm hk hW (keep_args hk (C0.2.2.2.2.2.1 w (jT_tbl hw)))⟩
  rw [hU]
  exact ((hSF.kept (H1 := H) (fun q z1 z2 => hS.2.1 q z1 z2)).narrow hAA).warm hW
theorem lw_fix (C : LwE p s m meth c b L xs D cA w0) : ∀ w ∈ jT, w.before #[Value.ref b] s = true := fun w hw => C.1.2.2.2.2.2.1 w (jT_tbl hw)
/-- the law calls a method of one side -/
theorem lw_callV {G : GT} {d b1 : Nat} {h : AH} {ad : Nat → Nat} {wb : va_W} {Q : Option AV → AH → Prop} {H : Heap} {ls : Array Slot} {locs : List Loc} {cells slots pc ci idx np : Nat} {rest : List Value} {q : vw_C} {y' : Mth} {vs : List AV} (C : LwE p s m meth c b L xs D cA w0)
    (P1 : va_P D vwCl (cw cA ad h) H) (P2 : va_P D vwCl wb H) (D1 : va_D (Ag s) (cw cA ad h)) (ap : Apt (cw cA ad h) wb) (hS : va_S (Ag s) s.heap H locs) (hO : OkH h) (hG : Gd G h) (hl : ls.size = 4) (ml : ML 0 RL idx y' np) (hv : vs.length = np) (hvI : ∀ v ∈ vs, OkV h v) (hmL : y'.2.2.1 ≤ 45) (hq : vwCl[ci]? = some q) (hcl : q.1 = y'.1.cls) (hk : Kd G h 0 (.inl ci)) (h4 : (rest.map fun v => v.category).sum ≤ 8) (hd : decode code pc = .ok (.invokevirtual idx, 3)) (hroom : d ≤ 1000) (hf : cells + b1 ≤ 600000 ∧ slots + b1 ≤ 600000)
    (hM : WM G d b1 y' (vR (some 0) :: vs) h Q)
    (kk : ∀ (r : Option AV) (h' : AH) (ad' : Nat → Nat) (H' : Heap) (locs' : List Loc), Q r h' → (∀ k, k < hn h → ad' k = ad k) → hn h ≤ hn h' → va_P D vwCl (cw cA ad' h') H' → va_P D vwCl wb H' → va_D (Ag s) (cw cA ad' h') → Apt (cw cA ad' h') wb → va_S (Ag s) s.heap H' locs' → OkH h' → Gd G h' → LWk p l e s m below meth c b H' locs' (cells + b1) (slots + b1) (F0 m (pc + 3) ls ((r.map (cv w0 ad')).toList ++ rest))) :
    LWk p l e s m below meth c b H locs cells slots (F0 m pc ls ((vs.map (cv w0 ad)).reverse ++ .ref (ad 0) :: rest)) := by
  have hts := lw_fix C
  obtain ⟨⟨hx, hb, hr, hml, hown, hts0, hX, hbl, hlocks, hgv⟩, hL3, hK, hSF⟩ := id C
  obtain ⟨hk1, hk2⟩ := hk.use hG
  have hvs : ∀ v ∈ vR (some 0) :: vs, OkV h v := fun v z => by
    rcases List.mem_cons.mp z with z | z
    · rw [z]
      exact fun k e => by cases e; exact hk2
    · exact hvI v z
  have hM1 := hM l D cA w0 H.size ad hO hG hvs
  obtain ⟨m1, m2, m3, k1, k2, k3⟩ := ml
  have hrecv := va_recv (q := q) hK P1 hq (show (cw cA ad h)[0]? = some (ad 0, .inr (ci, _)) by rw [cw_get hk2, ce_obj hk1])
  have hroom2 : (rmJ d b1).frames + 1 ≤ room_1.frames ∧ 8 + (y'.2.2.1 + 11) + (rmJ d b1).locals ≤ room_1.locals := ⟨by show d + 1 ≤ 2048; omega, by show _ + 64 * d ≤ 84000; omega⟩
  have hf2 : cells + b1 ≤ room_1.cells ∧ slots + b1 ≤ room_1.slots := ⟨by show _ ≤ 600000; omega, by show _ ≤ 7302250; omega⟩
  have hlen : (vs.map (cv w0 ad)).length = np := by rw [List.length_map, hv]
  refine lw_run (aa := (Value.ref (ad 0) :: vs.map (cv w0 ad)).toArray) P1 P2 D1 ap hS kk ?_
  exact va_runV (As := vs.map (cv w0 ad)) (rest := rest) ⟨hx, hb, hml, hown, hts⟩ hM1 ⟨callB_of np hts (lw_gd m1) rfl rfl rfl (hts _ m2) (hts _ k1) m3 hroom2, hts _ k2, hts _ k3⟩ ⟨PJ_blind, hcl ▸ hrecv, fun U hU hW => lw_pre (vs := vR (some 0) :: vs) C P1 D1 hS U hU hW⟩ rfl hlen hl rfl (lv_room h4) hd hf2
/-- the law calls a constructor of one side -/
theorem lw_callI {G : GT} {d b1 : Nat} {h : AH} {ad : Nat → Nat} {wb : va_W} {Q : Option AV → AH → Prop} {H : Heap} {ls : Array Slot} {locs : List Loc} {cells slots pc idx : Nat} {rest : List Value} {y' : Mth} (C : LwE p s m meth c b L xs D cA w0)
    (P1 : va_P D vwCl (cw cA ad h) H) (P2 : va_P D vwCl wb H) (D1 : va_D (Ag s) (cw cA ad h)) (ap : Apt (cw cA ad h) wb) (hS : va_S (Ag s) s.heap H locs) (hO : OkH h) (hG : Gd G h) (hl : ls.size = 4) (ml : ML 4 RL idx y' 0) (hret : y'.2.2.2 = none) (hmL : y'.2.2.1 ≤ 45) (h0 : 0 < hn h) (h4 : (rest.map fun v => v.category).sum ≤ 8) (hd : decode code pc = .ok (.invokespecial idx, 3)) (hroom : d ≤ 1000) (hf : cells + b1 ≤ 600000 ∧ slots + b1 ≤ 600000)
    (hM : WM G d b1 y' [vR (some 0)] h Q)
    (kk : ∀ (r : Option AV) (h' : AH) (ad' : Nat → Nat) (H' : Heap) (locs' : List Loc), Q r h' → (∀ k, k < hn h → ad' k = ad k) → hn h ≤ hn h' → va_P D vwCl (cw cA ad' h') H' → va_P D vwCl wb H' → va_D (Ag s) (cw cA ad' h') → Apt (cw cA ad' h') wb → va_S (Ag s) s.heap H' locs' → OkH h' → Gd G h' → LWk p l e s m below meth c b H' locs' (cells + b1) (slots + b1) (F0 m (pc + 3) ls ((r.map (cv w0 ad')).toList ++ rest))) :
    LWk p l e s m below meth c b H locs cells slots (F0 m pc ls (.ref (ad 0) :: rest)) := by
  have hts := lw_fix C
  obtain ⟨⟨hx, hb, hr, hml, hown, hts0, hX, hbl, hlocks, hgv⟩, hL3, hK, hSF⟩ := id C
  have hvs : ∀ v ∈ [vR (some 0)], OkV h v := fun v z => by
    rw [List.mem_singleton.mp z]
    exact fun k e => by cases e; exact h0
  have hM1 := hM l D cA w0 H.size ad hO hG hvs
  obtain ⟨y1, y2, y3, y4⟩ := y'
  dsimp only at hret hmL hM1
  subst hret
  obtain ⟨m1, m2, m3, k1, k2, k3⟩ := ml
  have hroom2 : (rmJ d b1).frames + 1 ≤ room_1.frames ∧ 8 + (y3 + 11) + (rmJ d b1).locals ≤ room_1.locals := ⟨by show d + 1 ≤ 2048; omega, by show _ + 64 * d ≤ 84000; omega⟩
  have hf2 : cells + b1 ≤ room_1.cells ∧ slots + b1 ≤ room_1.slots := ⟨by show _ ≤ 600000; omega, by show _ ≤ 7302250; omega⟩
  refine lw_run (aa := (Value.ref (ad 0) :: ([] : List AV).map (cv w0 ad)).toArray) P1 P2 D1 ap hS kk ?_
  exact va_runI (As := ([] : List AV).map (cv w0 ad)) (rest := rest) ⟨hx, hb, hml, hown, hts⟩ hM1 ⟨callB_of 0 hts (lw_gd m1) rfl rfl rfl (hts _ m2) (hts _ k1) m3 hroom2, k3, hts _ k2⟩ ⟨PJ_blind, fun U hU hW => lw_pre (vs := [vR (some 0)]) C P1 D1 hS U hU hW⟩ rfl rfl hl rfl (lv_room h4) hd hf2
/-- the class's method -/
theorem LJ_callX {GA GB : GT} {N d b1 pc idx np : Nat} {loc : List (Nat × Value)} {rest : List Value} {hX hM : AH} {y' : Mth} {zs : List Int32} {Q : Option AV → AH → Prop} (C : LwE p s m meth c b L xs D cA w0) (hk : Kd GA hX 0 (.inl 7)) (ml : ML 0 RL idx y' np) (hv : zs.length = np) (hmL : y'.2.2.1 ≤ 45) (hcl : RX7 = y'.1.cls) (h4 : (rest.map fun v => v.category).sum ≤ 8) (hd : decode code pc = .ok (.invokevirtual idx, 3)) (hroom : d ≤ 1000) (hf : N + b1 ≤ 600000) (hMM : WM GA d b1 y' (vR (some 0) :: zs.map (fun z => vI z.toInt)) hX Q)
    (kk : ∀ (r : Option AV) (h' : AH) (ad' : Nat → Nat), Q r h' → LJ p l e s m below meth c b D cA w0 aX aM GA GB (N + b1) (pc + 3) loc ((r.map (cv w0 ad')).toList ++ rest) h' hM) :
    LJ p l e s m below meth c b D cA w0 aX aM GA GB N pc loc ((zs.map Value.int).reverse ++ .ref aX :: rest) hX hM := by
  intro adX adM H ls locs cells slots C1
  obtain ⟨p1, p2, d1, d2, ap, hS, o1, o2, g1, g2, a1, a2, hl, hc, hs⟩ := C1
  have hz : 0 < hn hX := (hk.use g1).2
  have e1 : zs.map Value.int = (zs.map (fun z => vI z.toInt)).map (cv w0 adX) := by
    rw [List.map_map]
    refine List.map_congr_left fun z _ => ?_
    show Value.int z = Value.int (Int32.ofInt z.toInt)
    rw [Int32.ofInt_toInt]
  rw [e1, ← a1 hz]
  refine lw_callV (ci := 7) (q := (RX7, TX7, 17)) C p1 p2 d1 ap hS o1 g1 hl.1 ml (by rw [List.length_map]; exact hv) (fun v z => ?_) hmL rfl hcl hk h4 hd hroom (by omega) hMM (fun r h' ad' H' locs' K k1 k2 q1 q2 e1 ap' hS' o1' g1' => ?_)
  · obtain ⟨y, -, rfl⟩ := List.mem_map.mp z
    exact r32_of y
  · exact kk r h' ad' K ad' adM H' ls locs' (cells + b1) (slots + b1) ⟨q1, q2, e1, d2, ap', hS', o1', o2, g1', g2, fun _ => (k1 0 hz).trans (a1 hz), a2, hl, by omega, by omega⟩
/-- the reference's method -/
theorem LJ_callM {GA GB : GT} {N d b1 pc idx np : Nat} {loc : List (Nat × Value)} {rest : List Value} {hX hM : AH} {y' : Mth} {zs : List Int32} {Q : Option AV → AH → Prop} (C : LwE p s m meth c b L xs D cA w0) (hk : Kd GB hM 0 (.inl 8)) (ml : ML 0 RL idx y' np) (hv : zs.length = np) (hmL : y'.2.2.1 ≤ 45) (hcl : RX8 = y'.1.cls) (h4 : (rest.map fun v => v.category).sum ≤ 8) (hd : decode code pc = .ok (.invokevirtual idx, 3)) (hroom : d ≤ 1000) (hf : N + b1 ≤ 600000) (hMM : WM GB d b1 y' (vR (some 0) :: zs.map (fun z => vI z.toInt)) hM Q)
    (kk : ∀ (r : Option AV) (h' : AH) (ad' : Nat → Nat), Q r h' → LJ p l e s m below meth c b D cA w0 aX aM GA GB (N + b1) (pc + 3) loc ((r.map (cv w0 ad')).toList ++ rest) hX h') :
    LJ p l e s m below meth c b D cA w0 aX aM GA GB N pc loc ((zs.map Value.int).reverse ++ .ref aM :: rest) hX hM := by
  intro adX adM H ls locs cells slots C1
  obtain ⟨p1, p2, d1, d2, ap, hS, o1, o2, g1, g2, a1, a2, hl, hc, hs⟩ := C1
  have hz : 0 < hn hM := (hk.use g2).2
  have e1 : zs.map Value.int = (zs.map (fun z => vI z.toInt)).map (cv w0 adM) := by
    rw [List.map_map]
    refine List.map_congr_left fun z _ => ?_
    show Value.int z = Value.int (Int32.ofInt z.toInt)
    rw [Int32.ofInt_toInt]
  rw [e1, ← a2 hz]
  refine lw_callV (ci := 8) (q := (RX8, TX8, 58)) C p2 p1 d2 ap.symm hS o2 g2 hl.1 ml (by rw [List.length_map]; exact hv) (fun v z => ?_) hmL rfl hcl hk h4 hd hroom (by omega) hMM (fun r h' ad' H' locs' K k1 k2 q1 q2 e1 ap' hS' o1' g1' => ?_)
  · obtain ⟨y, -, rfl⟩ := List.mem_map.mp z
    exact r32_of y
  · exact kk r h' ad' K adX ad' H' ls locs' (cells + b1) (slots + b1) ⟨q2, q1, d1, e1, ap'.symm, hS', o1, o1', g1, g1', a1, fun _ => (k1 0 hz).trans (a2 hz), hl, by omega, by omega⟩
/-- locals of the law's loop -/
def loc4 (b aX aM : Nat) (i : Int) : List (Nat × Value) := [(3, .int (Int32.ofInt i)), (2, .ref aM), (1, .ref aX), (0, .ref b)]
/-- a number of the script comes onto the stack -/
theorem LJ_arg {GA GB : GT} {N pc i k : Nat} {st : List Value} {hX hM : AH} (C : LwE p s m meth c b L xs D cA w0) (hi : i + k < L) (e0 : decode code pc = .ok (.aload_n 0, 1)) (e1 : decode code (pc + 1) = .ok (.iload_n 3, 1)) (e2 : decode code (pc + 2) = .ok (.iconst (k : Int), 1)) (e3 : decode code (pc + 3) = .ok (.iadd, 1)) (e4 : decode code (pc + 4) = .ok (.iaload, 1))
    (kk : LJ p l e s m below meth c b D cA w0 aX aM GA GB N (pc + 5) (loc4 b aX aM i) (.int (xs (i + k)) :: st) hX hM) : LJ p l e s m below meth c b D cA w0 aX aM GA GB N pc (loc4 b aX aM i) st hX hM := by
  intro adX adM H ls locs cells slots C1
  obtain ⟨⟨hx, hb, hr, hml, hown, hts0, hX0, hbl, hlocks, hgv⟩, hL3, hK, hSF⟩ := id C
  obtain ⟨p1, p2, d1, d2, ap, hS, o1, o2, g1, g2, a1, a2, hl, hc, hs⟩ := id C1
  have K := kk adX adM H ls locs cells slots C1
  refine lv_aload_n hx hb e0 rfl (lv_at hl 3 rfl) ?_
  refine lv_iload_n hx hb e1 rfl (lv_at hl 0 rfl) ?_
  refine lv_iconst hx hb e2 rfl ?_
  refine lv_iadd hx hb e3 ?_
  have en : Int32.ofInt (i : Int) + Int32.ofInt (k : Int) = Int32.ofInt ((i + k : Nat) : Int) := by
    rw [← Int32.ofInt_add]
    congr 1
  rw [en]
  have hR : R32 ((i + k : Nat) : Int) := by omega
  have e5 : (Int32.ofInt ((i + k : Nat) : Int)).toNatClampNeg = i + k := by
    show ((Int32.ofInt ((i + k : Nat) : Int)).toInt).toNat = _
    rw [z32 hR]
    omega
  refine va_sld (b := b) (L := L) (xs := xs) hx hb hX0 hbl (A := Ag s) (Nat.not_le.mpr hbl) hS (vin hR (by omega)) e4 ?_
  rw [e5]
  exact K
/-- x or m comes onto the stack -/
theorem LJ_x {GA GB : GT} {N pc : Nat} {i : Int} {st : List Value} {hX hM : AH} (C : LwE p s m meth c b L xs D cA w0) (e0 : decode code pc = .ok (.aload_n 1, 1)) (kk : LJ p l e s m below meth c b D cA w0 aX aM GA GB N (pc + 1) (loc4 b aX aM i) (.ref aX :: st) hX hM) : LJ p l e s m below meth c b D cA w0 aX aM GA GB N pc (loc4 b aX aM i) st hX hM := by
  intro adX adM H ls locs cells slots C1
  exact lv_aload_n C.1.1 C.1.2.1 e0 rfl (lv_at C1.2.2.2.2.2.2.2.2.2.2.2.2.1 2 rfl) (kk adX adM H ls locs cells slots C1)
theorem LJ_m {GA GB : GT} {N pc : Nat} {i : Int} {st : List Value} {hX hM : AH} (C : LwE p s m meth c b L xs D cA w0) (e0 : decode code pc = .ok (.aload_n 2, 1)) (kk : LJ p l e s m below meth c b D cA w0 aX aM GA GB N (pc + 1) (loc4 b aX aM i) (.ref aM :: st) hX hM) : LJ p l e s m below meth c b D cA w0 aX aM GA GB N pc (loc4 b aX aM i) st hX hM := by
  intro adX adM H ls locs cells slots C1
  exact lv_aload_n C.1.1 C.1.2.1 e0 rfl (lv_at C1.2.2.2.2.2.2.2.2.2.2.2.2.1 1 rfl) (kk adX adM H ls locs cells slots C1)
/-- both answers are alike -/
theorem LJ_same {GA GB : GT} {N pc tgt : Nat} {off : Int} {v : Int32} {loc : List (Nat × Value)} {hX hM : AH} (C : LwE p s m meth c b L xs D cA w0) (e0 : decode code pc = .ok (.if_icmp .eq off, 3)) (ht : (pc : Int) + off = (tgt : Int)) (kk : LJ p l e s m below meth c b D cA w0 aX aM GA GB N tgt loc [] hX hM) : LJ p l e s m below meth c b D cA w0 aX aM GA GB N pc loc [.int v, .int v] hX hM := by
  intro adX adM H ls locs cells slots C1
  exact lv_icmp_eq C.1.1 C.1.2.1 e0 ht (fun _ => kk adX adM H ls locs cells slots C1) (fun z => absurd rfl z)
theorem LJ_sameL {GA GB : GT} {N pc tgt : Nat} {off : Int} {v : Int} {loc : List (Nat × Value)} {hX hM : AH} (C : LwE p s m meth c b L xs D cA w0) (e0 : decode code pc = .ok (.lcmp, 1)) (e1 : decode code (pc + 1) = .ok (.ifCond .eq off, 3)) (ht : ((pc + 1 : Nat) : Int) + off = (tgt : Int)) (kk : LJ p l e s m below meth c b D cA w0 aX aM GA GB N tgt loc [] hX hM) : LJ p l e s m below meth c b D cA w0 aX aM GA GB N pc loc [.long (Int64.ofInt v), .long (Int64.ofInt v)] hX hM := by
  intro adX adM H ls locs cells slots C1
  have ev : Int64.ofInt v = Int64.ofInt (Int64.ofInt v).toInt := (Int64.ofInt_toInt _).symm
  rw [ev]
  have hR := r64_of (Int64.ofInt v)
  refine W.lcmp C.1.1 C.1.2.1 e0 ?_
  rw [zcmp_ok hR hR]
  have z0 : zcmp (Int64.ofInt v).toInt (Int64.ofInt v).toInt = 0 := by
    unfold zcmp
    rw [if_neg (by omega), if_pos rfl]
  rw [z0]
  exact lv_if_eq C.1.1 C.1.2.1 e1 ht (fun _ => kk adX adM H ls locs cells slots C1) (fun z => absurd (by decide) z)
theorem rest_le (r : Option AV) {ad : Nat → Nat} : (((r.map (cv w0 ad)).toList).map fun v => v.category).sum ≤ 8 := by
  cases r with
  | none => exact Nat.zero_le _
  | some v =>
    have := csum_le w0 ad [v]
    exact Nat.le_trans this (show 2 * 1 ≤ 8 by decide)
theorem LJ_le {GA GB : GT} {N N' pc : Nat} {loc : List (Nat × Value)} {st : List Value} {hX hM : AH} (h : N ≤ N') (k : LJ p l e s m below meth c b D cA w0 aX aM GA GB N' pc loc st hX hM) : LJ p l e s m below meth c b D cA w0 aX aM GA GB N pc loc st hX hM := by
  intro adX adM H ls locs cells slots C1
  obtain ⟨p1, p2, d1, d2, ap, hS, o1, o2, g1, g2, a1, a2, hl, hc, hs⟩ := C1
  exact k adX adM H ls locs cells slots ⟨p1, p2, d1, d2, ap, hS, o1, o2, g1, g2, a1, a2, hl, by omega, by omega⟩
theorem LJ_ts {GA GB : GT} {N pc v tgt len : Nat} {dflt lo hi off : Int} {offs : Array Int} {x : Int32} {loc : List (Nat × Value)} {st : List Value} {hX hM : AH} (C : LwE p s m meth c b L xs D cA w0) (hd : decode code pc = .ok (.tableswitch dflt lo hi offs, len)) (hv : x.toInt = v) (h1 : lo ≤ v) (h2 : (v : Int) ≤ hi) (ho : offs[((v : Int) - lo).toNat]? = some off) (ht : (pc : Int) + off = (tgt : Int)) (k : LJ p l e s m below meth c b D cA w0 aX aM GA GB N tgt loc st hX hM) : LJ p l e s m below meth c b D cA w0 aX aM GA GB N pc loc (.int x :: st) hX hM := by
  intro adX adM H ls locs cells slots C1
  exact lv_tableIn C.1.1 C.1.2.1 hd (by omega) (by omega) (by rw [hv]; exact ho) ht (k adX adM H ls locs cells slots C1)
theorem LJ_tsOut {GA GB : GT} {N pc tgt len : Nat} {dflt lo hi : Int} {offs : Array Int} {x : Int32} {loc : List (Nat × Value)} {st : List Value} {hX hM : AH} (C : LwE p s m meth c b L xs D cA w0) (hd : decode code pc = .ok (.tableswitch dflt lo hi offs, len)) (hv : x.toInt < lo ∨ hi < x.toInt) (ht : (pc : Int) + dflt = (tgt : Int)) (k : LJ p l e s m below meth c b D cA w0 aX aM GA GB N tgt loc st hX hM) : LJ p l e s m below meth c b D cA w0 aX aM GA GB N pc loc (.int x :: st) hX hM := by
  intro adX adM H ls locs cells slots C1
  exact lv_tableOut C.1.1 C.1.2.1 hd hv ht (k adX adM H ls locs cells slots C1)
end LROW
