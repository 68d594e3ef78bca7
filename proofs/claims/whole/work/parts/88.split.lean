/-! the class splits its tape -/
def AtW : Int → List Int → Prop
  | i, [] => i = 148
  | i, x :: L => wAt i = x ∧ AtW (i + 1) L
def atB : Int → List Int → Bool
  | i, [] => decide (i = 148)
  | i, x :: L => decide (wAt i = x) && atB (i + 1) L
set_option maxRecDepth 20000 in
theorem atB_at : ∀ (L : List Int) (i : Int), atB i L = true → AtW i L
  | [], i, h => by
    unfold atB at h
    unfold AtW
    exact of_decide_eq_true h
  | x :: L, i, h => by
    unfold atB at h
    rw [Bool.and_eq_true] at h
    unfold AtW
    exact ⟨of_decide_eq_true h.1, atB_at L (i + 1) h.2⟩
def spell (ws : List (List Int)) : List Int := ws.flatMap (fun w => w ++ [32])
theorem wds_at : AtW 0 (spell wds) := atB_at _ _ (by decide +kernel)
theorem AtW.len : ∀ (L : List Int) (i : Int), AtW i L → i + L.length = 148
  | [], i, h => by
    have : i = 148 := h
    rw [List.length_nil]
    omega
  | x :: L, i, h => by
    have := AtW.len L (i + 1) h.2
    rw [List.length_cons]
    omega
/-- a word stands on the tape from p to e -/
def mtW (T : Int → Int) (e : Int) : List Int → Int → Prop
  | [], p => p = e
  | x :: r, p => p < e ∧ T p = x ∧ mtW T e r (p + 1)
theorem mtW_iff {T : Int → Int} {e : Int} : ∀ (w : List Int) (p : Int), p ≤ e → (mtW T e w p ↔ w = lets T p (e - p).toNat)
  | [], p, h => by
    show p = e ↔ _
    constructor
    · intro z
      subst z
      rw [show (p - p).toNat = 0 by omega]
      rfl
    · intro z
      have := congrArg List.length z
      rw [lets_len, List.length_nil] at this
      omega
  | x :: r, p, h => by
    show p < e ∧ T p = x ∧ mtW T e r (p + 1) ↔ _
    by_cases c : p < e
    · have := mtW_iff (T := T) (e := e) r (p + 1) (by omega)
      rw [this, show (e - p).toNat = (e - (p + 1)).toNat + 1 by omega, lets_c, List.cons.injEq]
      exact ⟨fun z => ⟨z.2.1.symm, z.2.2⟩, fun z => ⟨c, z.1.symm, z.2⟩⟩
    · rw [show (e - p).toNat = 0 by omega]
      exact ⟨fun z => absurd z.1 c, fun z => by cases z⟩
section SPLIT
variable {d b : Nat} {Q : Option AV → AH → Prop} {h : AH}
theorem lp_word1 {p e w : Int} (hp : 0 ≤ p ∧ p < e ∧ e ≤ 400) (hw : 0 ≤ w ∧ w ≤ 1000) : ∀ (l : List Int) (L : List Int) (i like same : Int), 0 ≤ i → 0 ≤ like → like ≤ i → AtW i (l ++ 32 :: L) → (∀ x ∈ l, x ≠ 32) → (same = 0 ∨ (same = 1 ∧ p + like ≤ e)) →
    ((same = 1 ∧ mtW (gi h 30) e l (p + like)) → Q (some (vI (258 + w))) h) → (¬ (same = 1 ∧ mtW (gi h 30) e l (p + like)) → ∀ i', AtW i' L → 0 ≤ i' → Lp_X3_wordIn_11 d b Q p e (w + 1) 0 1 i' h) → Lp_X3_wordIn_11 d b Q p e w like same i h
  | [], L, i, like, same, i0, l0, li, hA, hl, hs, k1, k2 => by
    have A := AtW.len _ _ hA
    have a1 : wAt i = 32 := hA.1
    have a2 : AtW (i + 1) L := hA.2
    rw [List.nil_append, List.length_cons] at A
    have nx : ¬ (same = 1 ∧ p + like = e) → Lp_X3_wordIn_105 d b Q p e (w + 1) 0 1 i h := fun z => l_X3_wordIn_105 ⟨by omega, k2 (fun y => z ⟨y.1, y.2⟩) (i + 1) a2 (by omega)⟩
    refine l_X3_wordIn_11 ⟨fun z => by omega, fun _ => ⟨by omega, fun _ => ⟨fun z => ⟨by omega, nx (by omega)⟩, fun z => ⟨by omega, fun y => ⟨by omega, k1 ⟨by omega, y⟩⟩, fun y => ⟨by omega, nx (fun u => y u.2)⟩⟩⟩, fun z => absurd a1 z⟩⟩
  | x :: l, L, i, like, same, i0, l0, li, hA, hl, hs, k1, k2 => by
    have A := AtW.len _ _ hA
    have a1 : wAt i = x := hA.1
    have a2 : AtW (i + 1) (l ++ 32 :: L) := hA.2
    have a3 := hl x List.mem_cons_self
    rw [List.cons_append, List.length_cons, List.length_append, List.length_cons] at A
    have go : ∀ s : Int, (s = 0 ∨ (s = 1 ∧ p + (like + 1) ≤ e)) → ((s = 1 ∧ mtW (gi h 30) e l (p + (like + 1))) ↔ (same = 1 ∧ mtW (gi h 30) e (x :: l) (p + like))) → Lp_X3_wordIn_105 d b Q p e w (like + 1) s i h := fun s hs2 ev => l_X3_wordIn_105 ⟨by omega, lp_word1 hp hw l L (i + 1) (like + 1) s (by omega) (by omega) (by omega) a2 (fun z hz => hl z (List.mem_cons_of_mem _ hz)) hs2 (fun z => k1 (ev.mp z)) (fun z => k2 (fun y => z (ev.mpr y)))⟩
    refine l_X3_wordIn_11 ⟨fun z => by omega, fun _ => ⟨by omega, fun z => absurd (a1.symm.trans z) a3, fun _ => ⟨fun z => ⟨by omega, go 0 (Or.inl rfl) ⟨fun y => by omega, fun y => by omega⟩⟩, fun z => ⟨by omega, fun y => ⟨by omega, go 0 (Or.inl rfl) ⟨fun u => by omega, fun u => by have := u.2.1; omega⟩⟩, fun y => ⟨by omega, by omega, fun u => ⟨by omega, go 1 (Or.inr ⟨rfl, by omega⟩) ?_⟩, fun u => ⟨by omega, go 0 (Or.inl rfl) ⟨fun t => by omega, fun t => absurd (t.2.2.1.trans a1.symm) u⟩⟩⟩⟩⟩⟩⟩
    have ep : p + like + 1 = p + (like + 1) := by omega
    constructor
    · intro t
      exact ⟨by omega, by omega, u.trans a1, ep ▸ t.2⟩
    · intro t
      exact ⟨rfl, ep ▸ t.2.2.2⟩
theorem lp_words {p e : Int} (hp : 0 ≤ p ∧ p < e ∧ e ≤ 400) : ∀ (ws : List (List Int)) (w i : Int), 0 ≤ i → 0 ≤ w → w + ws.length ≤ 100 → AtW i (spell ws) → (∀ l ∈ ws, ∀ x ∈ l, x ≠ 32) → Q (some (vI (wFind ws (258 + w) (lets (gi h 30) p (e - p).toNat)))) h → Lp_X3_wordIn_11 d b Q p e w 0 1 i h
  | [], w, i, i0, w0, wl, hA, _, K => by
    have a : i = 148 := hA
    exact l_X3_wordIn_11 ⟨fun _ => K, fun z => by omega⟩
  | l :: ws, w, i, i0, w0, wl, hA, hx, K => by
    rw [List.length_cons] at wl
    have hA' : AtW i (l ++ 32 :: spell ws) := by
      have : spell (l :: ws) = l ++ 32 :: spell ws := by
        show (l ++ [32]) ++ spell ws = _
        rw [List.append_assoc]
        rfl
      rwa [this] at hA
    have m := mtW_iff (T := gi h 30) (e := e) l (p + 0) (by omega)
    rw [Int.add_zero] at m
    unfold wFind at K
    refine lp_word1 hp ⟨w0, by omega⟩ l (spell ws) i 0 1 i0 (Int.le_refl _) i0 hA' (hx l List.mem_cons_self) (Or.inr ⟨rfl, by omega⟩) (fun z => ?_) (fun z i' hi' i0' => ?_)
    · rw [Int.add_zero] at z
      rw [if_pos (m.mp z.2)] at K
      exact K
    · rw [Int.add_zero] at z
      rw [if_neg (fun y => z ⟨rfl, m.mpr y⟩)] at K
      exact lp_words hp ws (w + 1) i' i0' (by omega) (by omega) hi' (fun z hz => hx z (List.mem_cons_of_mem _ hz)) (by rw [show 258 + (w + 1) = 258 + w + 1 by omega]; exact K)
theorem wds_32 : ∀ l ∈ wds, ∀ x ∈ l, x ≠ 32 := by decide
theorem c_X3_wordIn {p e : Int} (hp : 0 ≤ p ∧ p < e ∧ e ≤ 400) (K : Q (some (vI (wCode (lets (gi h 30) p (e - p).toNat)))) h) : WM GX (d + 10) b mX3_wordIn [vR (some 29), vI p, vI e] h Q :=
  w_X3_wordIn (lp_words hp wds 0 0 (Int.le_refl _) (Int.le_refl _) (by decide) wds_at wds_32 K)
theorem lp_endL {n : Int} (hn : gi h 29 1 = n ∧ n ≤ 400) : ∀ (f : Nat) (i : Int), i + f = n → 0 ≤ i → Q (some (vI (runTo ltL (gi h 30) n i))) h → Lp_X3_endOf_18 d b Q i h
  | 0, i, e, i0, K => by
    rw [runTo_end (by omega)] at K
    exact l_X3_endOf_18 ⟨fun _ => K, fun z => by omega⟩
  | f + 1, i, e, i0, K => by
    refine l_X3_endOf_18 ⟨fun z => by omega, fun _ => ⟨by omega, fun z => ⟨by omega, ?_⟩, fun z => ?_⟩⟩
    · rw [runTo_go (by omega) (show ltL _ from z)] at K
      exact lp_endL hn f (i + 1) (by omega) (by omega) K
    · rw [runTo_no (show ¬ ltL _ from z)] at K
      exact K
theorem lp_endD {n : Int} (hn : gi h 29 1 = n ∧ n ≤ 400) : ∀ (f : Nat) (i : Int), i + f = n → 0 ≤ i → Q (some (vI (runTo ltD (gi h 30) n i))) h → Lp_X3_endOf_51 d b Q i h
  | 0, i, e, i0, K => by
    rw [runTo_end (by omega)] at K
    exact l_X3_endOf_51 ⟨fun _ => K, fun z => by omega⟩
  | f + 1, i, e, i0, K => by
    refine l_X3_endOf_51 ⟨fun z => by omega, fun _ => ⟨by omega, fun z => ⟨by omega, ?_⟩, fun z => ?_⟩⟩
    · rw [runTo_go (by omega) (show ltD _ from z)] at K
      exact lp_endD hn f (i + 1) (by omega) (by omega) K
    · rw [runTo_no (show ¬ ltD _ from z)] at K
      exact K
theorem c_X3_endOf {n i : Int} (hn : gi h 29 1 = n ∧ n ≤ 400) (hi : 0 ≤ i ∧ i < n) (K : Q (some (vI (tEnd (gi h 30) n i))) h) : WM GX (d + 1) b mX3_endOf [vR (some 29), vI i] h Q := by
  unfold tEnd at K
  refine w_X3_endOf ⟨by omega, by omega, fun z => ?_, fun z => ⟨fun y => ?_, fun y => ?_⟩⟩
  · rw [if_pos (show ltL _ from z)] at K
    exact lp_endL hn (n - (i + 1)).toNat (i + 1) (by omega) (by omega) K
  · rw [if_neg (show ¬ ltL _ from z), if_pos (show ltD _ from y)] at K
    exact lp_endD hn (n - (i + 1)).toNat (i + 1) (by omega) (by omega) K
  · rw [if_neg (show ¬ ltL _ from z), if_neg (show ¬ ltD _ from y)] at K
    exact K
theorem lp_numberIn {e : Int} (hT : ∀ x, 0 ≤ x → x < e → 0 ≤ gi h 30 x ∧ gi h 30 x ≤ 255) (he : e ≤ 400) : ∀ (f : Nat) (a i : Int), i + f = e → 0 ≤ i → 0 ≤ a ∧ a ≤ 1000000 → (∀ x, i ≤ x → x < e → 48 ≤ gi h 30 x) → Q (some (vI (nuF (gi h 30) f i a))) h → Lp_X3_numberIn_5 d b Q e a i h
  | 0, a, i, ef, i0, ha, hD, K => l_X3_numberIn_5 ⟨fun _ => K, fun z => by omega⟩
  | f + 1, a, i, ef, i0, ha, hD, K => by
    have t := hT i i0 (by omega)
    have t2 := hD i (Int.le_refl _) (by omega)
    unfold nuF at K
    exact l_X3_numberIn_5 ⟨fun z => by omega, fun _ => ⟨by omega, by omega, by omega, by omega, by omega, lp_numberIn hT he f _ (i + 1) (by omega) (by omega) (by omega) (fun x x0 x1 => hD x (by omega) x1) K⟩⟩
theorem c_X3_numberIn {p e : Int} (hT : ∀ x, 0 ≤ x → x < e → 0 ≤ gi h 30 x ∧ gi h 30 x ≤ 255) (hp : 0 ≤ p ∧ p ≤ e ∧ e ≤ 400) (hD : ∀ x, p ≤ x → x < e → 48 ≤ gi h 30 x) (K : Q (some (vI (nuF (gi h 30) (e - p).toNat p 0))) h) : WM GX (d + 1) b mX3_numberIn [vR (some 29), vI p, vI e] h Q :=
  w_X3_numberIn (lp_numberIn hT hp.2.2 _ 0 p (by omega) hp.1 (by decide) hD K)
/-- what splitting may change -/
def FrG (a h : AH) : Prop := (∀ q x, ¬ (q = 32 ∨ q = 33 ∨ q = 34 ∨ (q = 31 ∧ x = 3)) → gi h q x = gi a q x) ∧ rf h = rf a ∧ kd h = kd a ∧ hn h = hn a ∧ gl h = gl a
theorem FrG.rfl' {a : AH} : FrG a a := ⟨fun _ _ _ => rfl, rfl, rfl, rfl, rfl⟩
theorem FrG.trans {a b c : AH} (x : FrG a b) (y : FrG b c) : FrG a c := ⟨fun q k z => (y.1 q k z).trans (x.1 q k z), y.2.1.trans x.2.1, y.2.2.1.trans x.2.2.1, y.2.2.2.1.trans x.2.2.2.1, y.2.2.2.2.trans x.2.2.2.2⟩
theorem FrG.si {a b : AH} (x : FrG a b) {q : Nat} {i v : Int} (h : q = 32 ∨ q = 33 ∨ q = 34 ∨ (q = 31 ∧ i = 3)) : FrG a (si b q i v) := x.trans ⟨fun q' k z => by rw [gi_si, if_neg (fun e => z (by rw [e.1, e.2]; exact h))], rfl, rfl, rfl, rfl⟩
/-- k tokens stand in the arrays -/
def TokX (T : Int → Int) (n : Int) (h : AH) (k i : Int) : Prop := gi h 31 3 = k ∧ (0 ≤ k ∧ k ≤ i ∧ i ≤ n) ∧ (∀ j, 0 ≤ j → j < k → gi h 32 j = cdF T n (gi h 33 j) ∧ gi h 34 j = nmF T n (gi h 33 j) ∧ 0 ≤ gi h 33 j ∧ gi h 33 j < n) ∧ (0 < k → gi h 33 0 = runTo ltB T n 0) ∧ (∀ j, 0 ≤ j → j + 1 < k → gi h 33 (j + 1) = runTo ltB T n (tEnd T n (gi h 33 j))) ∧ runTo ltB T n i = runTo ltB T n (if k = 0 then 0 else tEnd T n (gi h 33 (k - 1)))
theorem c_note {c p v k : Int} (hk : gi h 31 3 = k ∧ 0 ≤ k ∧ k ≤ 400) (K : ∀ h', FrG h h' → gi h' 31 3 = k + 1 → gi h' 32 k = c → gi h' 33 k = p → gi h' 34 k = v → (∀ j, j ≠ k → gi h' 32 j = gi h 32 j ∧ gi h' 33 j = gi h 33 j ∧ gi h' 34 j = gi h 34 j) → Q none h') : WM GX (d + 1) b mX3_note [vR (some 31), vI c, vI p, vI v] h Q := by
  refine w_X3_note ?_
  rw [hk.1]
  refine ⟨fun _ => ⟨by omega, fun h1 e1 => ⟨by omega, fun h2 e2 => ⟨by omega, fun h3 e3 => ⟨by omega, fun h4 e4 => ?_⟩⟩⟩⟩, fun z => by omega⟩
  subst e4 e3 e2 e1
  refine K _ ((((FrG.rfl'.si (Or.inl rfl)).si (Or.inr (Or.inl rfl))).si (Or.inr (Or.inr (Or.inl rfl)))).si (Or.inr (Or.inr (Or.inr ⟨rfl, rfl⟩)))) gi_eq ?_ ?_ ?_ (fun j hj => ⟨?_, ?_, ?_⟩)
  · rw [gi_no (by decide), gi_no (by decide), gi_no (by decide), gi_eq]
  · rw [gi_no (by decide), gi_no (by decide), gi_eq]
  · rw [gi_no (by decide), gi_eq]
  · rw [gi_no (by decide), gi_no (by decide), gi_no (by decide), gi_nk hj]
  · rw [gi_no (by decide), gi_no (by decide), gi_nk hj, gi_no (by decide)]
  · rw [gi_no (by decide), gi_nk hj, gi_no (by decide), gi_no (by decide)]
theorem TokX.push {h' : AH} {T : Int → Int} {n k i c v : Int} (H : TokX T n h k i) (hi : i < n) (hT : ¬ ltB (T i)) (ec : c = cdF T n i) (ev : v = nmF T n i) (e1 : gi h' 31 3 = k + 1) (e2 : gi h' 32 k = c) (e3 : gi h' 33 k = i) (e4 : gi h' 34 k = v) (e5 : ∀ j, j ≠ k → gi h' 32 j = gi h 32 j ∧ gi h' 33 j = gi h 33 j ∧ gi h' 34 j = gi h 34 j) : TokX T n h' (k + 1) (tEnd T n i) := by
  obtain ⟨h1, h2, h3, h4, h5, h6⟩ := H
  have te := tEnd_R (T := T) hi
  have ri : runTo ltB T n i = i := runTo_no hT
  refine ⟨e1, by omega, fun j j0 j1 => ?_, fun _ => ?_, fun j j0 j1 => ?_, ?_⟩
  · by_cases z : j = k
    · subst z
      rw [e2, e3, e4]
      exact ⟨ec, ev, by omega, hi⟩
    · have q := e5 j z
      rw [q.1, q.2.1, q.2.2]
      exact h3 j j0 (by omega)
  · by_cases z : k = 0
    · subst z
      rw [if_pos rfl] at h6
      rw [e3, ← h6, ri]
    · rw [(e5 0 (by omega)).2.1]
      exact h4 (by omega)
  · by_cases z : j + 1 = k
    · rw [z, e3, (e5 j (by omega)).2.1]
      rw [if_neg (by omega), show k - 1 = j by omega] at h6
      rw [← h6, ri]
    · rw [(e5 (j + 1) z).2.1, (e5 j (by omega)).2.1]
      exact h5 j j0 (by omega)
  · rw [if_neg (by omega), show k + 1 - 1 = k by omega, e3]
theorem lp_split {a : AH} {T : Int → Int} {n mode : Int} (hT : ∀ x, gi a 30 x = T x) (hB : ∀ x, 0 ≤ x → x < n → 0 ≤ T x ∧ T x ≤ 255) (hn : gi a 29 1 = n ∧ 0 ≤ n ∧ n ≤ 400)
    (K : ∀ (h' : AH) (X : Txt), FrG a h' → X = (T, n, gi h' 33, gi h' 31 3, mode) → LxOK X → (∀ j, 0 ≤ j → j < X.m → gi h' 32 j = X.c j ∧ gi h' 34 j = X.v j) → Q none h') :
    ∀ (f : Nat) (h : AH) (k i y : Int), i + f = n → 0 ≤ y → y ≤ i → FrG a h → TokX T n h k i → Lp_X3_split_9 d b Q i y h := by
  have fin : ∀ (h : AH) (k : Int), FrG a h → TokX T n h k n → WM GX (d + 10) 0 mX3_note [vR (some 31), vI (-1), vI (gi h 29 1), vI 0] h (fun r h1 => r = none ∧ Q none h1) := fun h k F H => by
    obtain ⟨h1, h2, h3, h4, h5, h6⟩ := H
    have e29 : gi h 29 1 = n := (F.1 _ _ (by omega)).trans hn.1
    rw [e29]
    refine c_note (d := d + 9) ⟨h1, h2.1, by omega⟩ (fun h' F' e1 e2 e3 e4 e5 => ⟨rfl, K h' (T, n, gi h' 33, gi h' 31 3, mode) (F.trans F') rfl ⟨hn.2, hB, ?_, ?_, ?_, ?_⟩ ?_⟩)
    · show 1 ≤ gi h' 31 3 ∧ gi h' 31 3 ≤ 401
      omega
    · show gi h' 33 0 = runTo ltB T n 0
      by_cases z : k = 0
      · subst z
        rw [if_pos rfl, runTo_end (Int.le_refl n)] at h6
        rw [e3]
        exact h6
      · rw [(e5 0 (by omega)).2.1]
        exact h4 (by omega)
    · intro j j0 j1
      replace j1 : j < gi h' 31 3 - 1 := j1
      show 0 ≤ gi h' 33 j ∧ gi h' 33 j < n ∧ gi h' 33 (j + 1) = runTo ltB T n (tEnd T n (gi h' 33 j))
      have q := h3 j j0 (by omega)
      rw [(e5 j (by omega)).2.1]
      refine ⟨q.2.2.1, q.2.2.2, ?_⟩
      by_cases z : j + 1 = k
      · rw [if_neg (by omega), show k - 1 = j by omega, runTo_end (Int.le_refl n)] at h6
        rw [z, e3]
        exact h6
      · rw [(e5 (j + 1) z).2.1]
        exact h5 j j0 (by omega)
    · show gi h' 33 (gi h' 31 3 - 1) = n
      rw [e1, show k + 1 - 1 = k by omega, e3]
    · intro j j0 j1
      replace j1 : j < gi h' 31 3 := j1
      show gi h' 32 j = cdF T n (gi h' 33 j) ∧ gi h' 34 j = nmF T n (gi h' 33 j)
      by_cases z : j = k
      · subst z
        rw [e2, e3, e4]
        unfold cdF nmF
        rw [if_pos (Int.le_refl n), if_pos (Int.le_refl n)]
        exact ⟨rfl, rfl⟩
      · have q := e5 j z
        rw [q.1, q.2.1, q.2.2]
        have := h3 j j0 (by omega)
        exact ⟨this.1, this.2.1⟩
  intro f
  induction f using Nat.strongRecOn with
  | ind f ih =>
    intro h k i y e y0 yi F H
    have e29 : gi h 29 1 = n := (F.1 _ _ (by omega)).trans hn.1
    have eT : ∀ x, gi h 30 x = T x := fun x => (F.1 _ _ (by omega)).trans (hT x)
    by_cases hin : n ≤ i
    · have : i = n := by omega
      subst this
      exact l_X3_split_9 ⟨fun _ => fin h k F H, fun _ => ⟨fun _ => fin h k F H, fun z => by omega⟩⟩
    · have h2 := H.2.1
      have te := tEnd_R (T := T) (show i < n by omega)
      have eG : gi h 30 = T := funext eT
      have nx : ∀ (h' : AH) (k' : Int), FrG a h' → TokX T n h' k' (tEnd T n i) → Lp_X3_split_104 d b Q y (tEnd T n i) h' := fun h' k' F' H' => l_X3_split_104 ⟨by omega, ih (n - tEnd T n i).toNat (by omega) h' k' (tEnd T n i) (y + 1) (by omega) (by omega) (by omega) F' H'⟩
      refine l_X3_split_9 ⟨fun z => by omega, fun _ => ⟨fun z => by omega, fun _ => ?_⟩⟩
      refine c_X3_endOf (d := d + 9) ⟨e29, by omega⟩ ⟨by omega, by omega⟩ ⟨_, rfl, ?_⟩
      rw [eG]
      refine ⟨by omega, fun z => ?_, fun z => ⟨fun w => ?_, fun w => ⟨fun u => ?_, fun u => ?_⟩⟩⟩
      · refine c_X3_wordIn ⟨by omega, by omega, by omega⟩ ⟨_, rfl, c_note (d := d + 9) ⟨H.1, h2.1, by omega⟩ (fun h' F' e1 e2 e3 e4 e5 => ⟨rfl, nx h' (k + 1) (F.trans F') (H.push (by omega) (fun q => by unfold ltB at q; omega) ?_ ?_ e1 e2 e3 e4 e5)⟩)⟩
        · rw [eG]
          unfold cdF
          rw [if_neg (by omega), if_pos (show ltL _ from z)]
        · unfold nmF
          rw [if_neg (by omega), if_pos (show ltL _ from z)]
      · have r := runTo_r (p := ltD) (T := T) (show i + 1 ≤ n by omega)
        have ee : tEnd T n i = runTo ltD T n (i + 1) := by
          unfold tEnd
          rw [if_neg (show ¬ ltL _ from z), if_pos (show ltD _ from w)]
        refine c_X3_numberIn (d := d + 9) (fun x x0 x1 => by rw [eT]; exact hB x x0 (by omega)) ⟨by omega, by omega, by omega⟩ (fun x x0 x1 => ?_) ⟨_, rfl, c_note (d := d + 9) ⟨H.1, h2.1, by omega⟩ (fun h' F' e1 e2 e3 e4 e5 => ⟨rfl, nx h' (k + 1) (F.trans F') (H.push (by omega) (fun q => by unfold ltB at q; omega) ?_ ?_ e1 e2 e3 e4 e5)⟩)⟩
        · rw [eT]
          rcases Int.lt_or_le i x with q | q
          · have := r.2.2.1 x (by omega) (by omega)
            exact this.1
          · have : x = i := by omega
            subst this
            exact w.1
        · unfold cdF
          rw [if_neg (by omega), if_neg (show ¬ ltL _ from z), if_pos (show ltD _ from w)]
        · rw [eG]
          unfold nmF
          rw [if_neg (by omega), if_neg (show ¬ ltL _ from z), if_pos (show ltD _ from w)]
      · have et : tEnd T n i = i + 1 := by
          unfold tEnd
          rw [if_neg (show ¬ ltL _ from z), if_neg (show ¬ ltD _ from w)]
        refine nx h k F ⟨H.1, by omega, H.2.2.1, H.2.2.2.1, H.2.2.2.2.1, ?_⟩
        have h6 := H.2.2.2.2.2
        rw [runTo_go (by omega) (show ltB _ from u)] at h6
        rw [et]
        exact h6
      · refine c_note (d := d + 9) ⟨H.1, h2.1, by omega⟩ (fun h' F' e1 e2 e3 e4 e5 => ⟨rfl, nx h' (k + 1) (F.trans F') (H.push (by omega) (fun q => u q) ?_ ?_ e1 e2 e3 e4 e5)⟩)
        · unfold cdF
          rw [if_neg (by omega), if_neg (show ¬ ltL _ from z), if_neg (show ¬ ltD _ from w)]
        · unfold nmF
          rw [if_neg (by omega), if_neg (show ¬ ltL _ from z), if_neg (show ¬ ltD _ from w)]
theorem c_X3_split {n : Int} (mode : Int) (hB : ∀ x, 0 ≤ x → x < n → 0 ≤ gi h 30 x ∧ gi h 30 x ≤ 255) (hn : gi h 29 1 = n ∧ 0 ≤ n ∧ n ≤ 400)
    (K : ∀ (h' : AH) (X : Txt), FrG h h' → X = (gi h 30, n, gi h' 33, gi h' 31 3, mode) → LxOK X → (∀ j, 0 ≤ j → j < X.m → gi h' 32 j = X.c j ∧ gi h' 34 j = X.v j) → Q none h') : WM GX (d + 11) b mX3_split [vR (some 31), vR (some 29)] h Q := by
  refine w_X3_split (fun h1 e1 => ?_)
  subst e1
  refine lp_split (a := h) (T := gi h 30) (mode := mode) (fun _ => rfl) hB hn K n.toNat _ 0 0 0 (by omega) (Int.le_refl _) (Int.le_refl _) (FrG.rfl'.si (Or.inr (Or.inr (Or.inr ⟨rfl, rfl⟩)))) ⟨gi_eq, by omega, fun j j0 j1 => by omega, fun z => by omega, fun j j0 j1 => by omega, ?_⟩
  rw [if_pos rfl]
end SPLIT
