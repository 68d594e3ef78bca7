/-! the reference's lexer -/
def FrN (a h : AH) : Prop := (∀ q x, ¬ (q = 0 ∧ (x = 14 ∨ x = 15 ∨ x = 16)) → gi h q x = gi a q x) ∧ ∀ q x, ¬ (q = 0 ∧ x = 17) → gl h q x = gl a q x
theorem FrN.rfl' {a : AH} : FrN a a := ⟨fun _ _ _ => rfl, fun _ _ _ => rfl⟩
theorem FrN.trans {a b c : AH} (x : FrN a b) (y : FrN b c) : FrN a c := ⟨fun q k z => (y.1 q k z).trans (x.1 q k z), fun q k z => (y.2 q k z).trans (x.2 q k z)⟩
theorem FrN.si {a b : AH} (x : FrN a b) {i v : Int} (h : i = 14 ∨ i = 15 ∨ i = 16) : FrN a (si b 0 i v) := x.trans ⟨fun q k z => by rw [gi_si, if_neg (fun e => by omega)], fun _ _ _ => rfl⟩
theorem FrN.sl {a b : AH} (x : FrN a b) {v : Int} : FrN a (sl b 0 17 v) := x.trans ⟨fun _ _ _ => rfl, fun q k z => by rw [gl_sl, if_neg z]⟩
/-- the reference stands at a token of this code and number -/
def Tk (h : AH) (c v : Int) : Prop :=
  (0 ≤ gi h 0 16 ∧ gi h 0 16 ≤ 3) ∧ (c = -1 ↔ gi h 0 16 = 0) ∧ (c = 256 ↔ gi h 0 16 = 2) ∧ (c = 256 → nuR v (gl h 0 17)) ∧ (∀ s, 33 ≤ s → s ≤ 96 → ¬ ltD s → (c = s ↔ gi h 0 16 = 3 ∧ gl h 0 17 = s)) ∧ ∀ k : Nat, k < 30 → (c = 258 + k ↔ gi h 0 16 = 1 ∧ gl h 0 17 = hsL.getD k 0)
theorem hsh_lt : ∀ (l : List Int), (∀ x ∈ l, ltL x) → rh l + 1 ≤ 32 ^ l.length
  | [], _ => by decide
  | x :: r, h => by
    have a := hsh_lt r (fun z hz => h z (List.mem_cons_of_mem _ hz))
    have c := h x List.mem_cons_self
    unfold ltL at c
    rw [List.length_cons, Int.pow_succ]
    unfold rh
    omega
theorem hsh_10 {l : List Int} (h : ∀ x ∈ l, ltL x) (hn : l.length ≤ 9) : 0 ≤ hsh l ∧ hsh l ≤ 35184372088832 := by
  refine ⟨hsh_0 h, ?_⟩
  rw [hsh_rh]
  have := hsh_lt l.reverse (fun x hx => h x (List.mem_reverse.mp hx))
  rw [List.length_reverse] at this
  have q : ∀ n : Nat, n ≤ 9 → (32 : Int) ^ n ≤ 35184372088832 := by decide
  have := q l.length hn
  omega
section NEXT
variable {d b : Nat} {Q : Option AV → AH → Prop} {h0 : AH} {T : Int → Int} {n p : Int}
theorem lp_next_8 {s : Int} (hT : ∀ x, 0 ≤ x → x < n → gi h0 9 x = T x) (hn : gi h0 0 13 = n ∧ 0 ≤ n ∧ n ≤ 400) (k : ∀ h', FrN h0 h' → gi h' 0 14 = s → Lp_X8_next_46 d b Q h') : ∀ (f : Nat) (h : AH), FrN h0 h → gi h 0 14 + f = n → 0 ≤ gi h 0 14 → runTo ltB T n (gi h 0 14) = s → Lp_X8_next_8 d b Q h
  | 0, h, F, e, z, r => by
    have e13 : gi h 0 13 = n := (F.1 _ _ (by omega)).trans hn.1
    rw [runTo_end (by omega)] at r
    exact l_X8_next_8 ⟨fun _ => k h F r, fun c => by omega⟩
  | f + 1, h, F, e, z, r => by
    have e13 : gi h 0 13 = n := (F.1 _ _ (by omega)).trans hn.1
    have eT : gi h 9 (gi h 0 14) = T (gi h 0 14) := (F.1 _ _ (by omega)).trans (hT _ z (by omega))
    refine l_X8_next_8 ⟨fun c => by omega, fun c => ⟨by omega, fun c2 => ⟨by omega, fun h1 e1 => ?_⟩, fun c2 => ?_⟩⟩
    · subst e1
      rw [runTo_go (by omega) (show ltB _ from eT ▸ c2)] at r
      exact lp_next_8 hT hn k f _ (F.si (Or.inl rfl)) (by rw [gi_eq]; omega) (by rw [gi_eq]; omega) (by rw [gi_eq]; exact r)
    · rw [runTo_no (show ¬ ltB _ from eT ▸ c2)] at r
      exact k h F r
theorem lp_next_word {W e : Int} (hT : ∀ x, 0 ≤ x → x < n → gi h0 9 x = T x) (hn : gi h0 0 13 = n ∧ 0 ≤ n ∧ n ≤ 400) (hp : 0 ≤ p) (k : ∀ h', FrN h0 h' → gi h' 0 14 = p → gi h' 0 16 = 1 → gi h' 0 15 = e → gl h' 0 17 = wo (lets T p (e - p).toNat) → Q none h') : ∀ (f j : Nat) (h : AH), FrN h0 h → p + j + f = n → gi h 0 14 = p → gi h 0 16 = 1 → gi h 0 15 = p + j → gl h 0 17 = wo (lets T p j) → (∀ x, p ≤ x → x < p + j → ltL (T x)) → runTo ltL T n (p + j) = e → Lp_X8_next_149 d b Q h
  | 0, j, h, F, ef, ep, e16, e15, e17, hL, r => by
    have e13 : gi h 0 13 = n := (F.1 _ _ (by omega)).trans hn.1
    rw [runTo_end (by omega)] at r
    have ej : (e - p).toNat = j := by omega
    refine l_X8_next_149 ⟨fun _ => ⟨fun _ => l_X8_next_243 ⟨fun c => by omega, fun _ => k h F ep e16 (by omega) (by rw [ej]; exact e17)⟩, fun c => by omega⟩, fun c => by omega⟩
  | f + 1, j, h, F, ef, ep, e16, e15, e17, hL, r => by
    have e13 : gi h 0 13 = n := (F.1 _ _ (by omega)).trans hn.1
    have eT : gi h 9 (gi h 0 15) = T (p + j) := by
      rw [e15]
      exact (F.1 _ _ (by omega)).trans (hT _ (by omega) (by omega))
    have H := fun (v : Int) (hv : v = wo (lets T p (j + 1))) (c : ltL (T (p + j))) => lp_next_word (W := W) hT hn hp k f (j + 1) (si (sl h 0 17 v) 0 15 (gi h 0 15 + 1)) (F.sl.si (Or.inr (Or.inl rfl))) (by omega) (by rw [gi_nk (by decide)]; exact ep) (by rw [gi_nk (by decide)]; exact e16) (by rw [gi_eq]; omega) (by rw [gl_xi, gl_eq]; exact hv) (fun x x0 x1 => by
      rcases Int.lt_or_le x (p + j) with z | z
      · exact hL x x0 z
      · have : x = p + j := by omega
        subst this
        exact c) (by rw [← r, runTo_go (by omega) c]; congr 1; omega)
    refine l_X8_next_149 ⟨fun _ => ⟨fun c => by omega, fun c => ⟨by omega, fun c2 => ⟨by omega, fun c3 h1 e1 => ⟨by omega, fun h2 e2 => ?_⟩, fun c3 => ?_⟩, fun c2 => ?_⟩⟩, fun c => by omega⟩
    · subst e2 e1
      refine H (-1) ?_ (eT ▸ c2)
      unfold wo
      rw [lets_len, if_neg (by omega)]
    · have hl := hsh_10 (lets_all hL) (by rw [lets_len]; omega)
      have ew : wo (lets T p j) = hsh (lets T p j) := by
        unfold wo
        rw [lets_len, if_pos (by omega)]
      rw [eT] at c2
      rw [eT, e17, ew]
      refine ⟨by omega, by omega, by omega, by omega, fun h1 e1 => ⟨by rw [e15]; omega, fun h2 e2 => ?_⟩⟩
      subst e2 e1
      refine H _ ?_ c2
      unfold wo
      rw [lets_len, if_pos (by omega), lets_s, hsh_s]
    · rw [eT] at c2
      rw [runTo_no c2] at r
      have ej : (e - p).toNat = j := by omega
      exact l_X8_next_243 ⟨fun c => by omega, fun _ => k h F ep e16 (by omega) (by rw [ej]; exact e17)⟩
theorem lp_next_num {W e : Int} (hT : ∀ x, 0 ≤ x → x < n → gi h0 9 x = T x) (hn : gi h0 0 13 = n ∧ 0 ≤ n ∧ n ≤ 400) (hp : 0 ≤ p) (k : ∀ h', FrN h0 h' → gi h' 0 14 = p → gi h' 0 16 = 2 → gi h' 0 15 = e → gl h' 0 17 = W → Q none h') : ∀ (f : Nat) (h : AH), FrN h0 h → gi h 0 15 + f = n → gi h 0 14 = p → gi h 0 16 = 2 → p ≤ gi h 0 15 → 0 ≤ gl h 0 17 ∧ gl h 0 17 ≤ 10000009 → runTo ltD T n (gi h 0 15) = e → nuM T (e - gi h 0 15).toNat (gi h 0 15) (gl h 0 17) = W → Lp_X8_next_243 d b Q h
  | 0, h, F, ef, ep, e16, e15, hw, r, rW => by
    have e13 : gi h 0 13 = n := (F.1 _ _ (by omega)).trans hn.1
    rw [runTo_end (by omega)] at r
    rw [show (e - gi h 0 15).toNat = 0 by omega] at rW
    exact l_X8_next_243 ⟨fun _ => ⟨fun _ => k h F ep e16 r rW, fun c => by omega⟩, fun c => by omega⟩
  | f + 1, h, F, ef, ep, e16, e15, hw, r, rW => by
    have e13 : gi h 0 13 = n := (F.1 _ _ (by omega)).trans hn.1
    have eT : gi h 9 (gi h 0 15) = T (gi h 0 15) := (F.1 _ _ (by omega)).trans (hT _ (by omega) (by omega))
    refine l_X8_next_243 ⟨fun _ => ⟨fun c => by omega, fun c => ⟨by omega, fun c2 => ?_, fun c2 => ?_⟩⟩, fun c => by omega⟩
    · rw [eT] at c2 ⊢
      rw [runTo_go (by omega) (show ltD _ from c2)] at r
      have re := (runTo_r (p := ltD) (T := T) (show gi h 0 15 + 1 ≤ n by omega)).1
      rw [show (e - gi h 0 15).toNat = (e - (gi h 0 15 + 1)).toNat + 1 by omega, nuM] at rW
      have H := fun (v : Int) (hv : v = if 1000000 < gl h 0 17 then gl h 0 17 else gl h 0 17 * 10 + T (gi h 0 15) - 48) (hv2 : 0 ≤ v ∧ v ≤ 10000009) => lp_next_num hT hn hp k f (si (sl h 0 17 v) 0 15 (gi h 0 15 + 1)) (F.sl.si (Or.inr (Or.inl rfl))) (by rw [gi_eq]; omega) (by rw [gi_nk (by decide)]; exact ep) (by rw [gi_nk (by decide)]; exact e16) (by rw [gi_eq]; omega) (by rw [gl_xi, gl_eq]; exact hv2) (by rw [gi_eq]; exact r) (by rw [gi_eq, gl_xi, gl_eq, hv]; exact rW)
      refine ⟨fun c3 => ⟨by omega, by omega, by omega, by omega, fun h1 e1 => ⟨by omega, fun h2 e2 => ?_⟩⟩, fun c3 h1 e1 => ⟨by omega, fun h2 e2 => ?_⟩⟩
      · subst e2 e1
        exact H _ (by rw [if_neg (by omega)]) (by omega)
      · subst e2 e1
        exact H _ (by rw [if_pos (by omega)]) (by omega)
    · rw [eT] at c2
      rw [runTo_no (show ¬ ltD _ from c2)] at r
      rw [show (e - gi h 0 15).toNat = 0 by omega] at rW
      exact k h F ep e16 r rW
theorem Tk_word {h : AH} {l : List Int} (hl : ∀ x ∈ l, ltL x) (e1 : gi h 0 16 = 1) (e2 : gl h 0 17 = wo l) : Tk h (wCode l) 0 := by
  have R := wFind_R wds 258 l (by omega)
  have R2 : wCode l = 257 ∨ 258 ≤ wCode l := by unfold wCode; omega
  clear R
  refine ⟨by omega, by omega, by omega, fun c => by omega, fun s s0 s1 s2 => by omega, fun k hk => ?_⟩
  rw [wCode_hs hl k hk, e2, e1]
  exact ⟨fun z => ⟨rfl, z⟩, fun z => z.2⟩
theorem c_X8_next {h : AH} (hT : ∀ x, 0 ≤ x → x < n → gi h 9 x = T x) (hB : ∀ x, 0 ≤ x → x < n → 0 ≤ T x ∧ T x ≤ 255) (hn : gi h 0 13 = n ∧ 0 ≤ n ∧ n ≤ 400) (ht : 0 ≤ gi h 0 15 ∧ gi h 0 15 ≤ n)
    (k : ∀ h', FrN h h' → gi h' 0 14 = runTo ltB T n (gi h 0 15) → gi h' 0 15 = tkF T n (runTo ltB T n (gi h 0 15)) → Tk h' (cdF T n (runTo ltB T n (gi h 0 15))) (nmF T n (runTo ltB T n (gi h 0 15))) → Q none h') : WM GM (d + 1) b mX8_next [vR (some 0)] h Q := by
  have S := runTo_r (p := ltB) (T := T) ht.2
  obtain ⟨s, es⟩ : ∃ s, runTo ltB T n (gi h 0 15) = s := ⟨_, rfl⟩
  rw [es] at k S
  obtain ⟨S1, S2, S3, S4⟩ := S
  refine w_X8_next (fun h1 e1 => ?_)
  subst e1
  refine lp_next_8 (T := T) (s := s) hT hn (fun h' F e14 => ?_) (n - gi h 0 15).toNat _ (FrN.rfl'.si (Or.inl rfl)) (by rw [gi_eq]; omega) (by rw [gi_eq]; omega) (by rw [gi_eq]; exact es)
  have e13 : gi h' 0 13 = n := (F.1 _ _ (by omega)).trans hn.1
  have A : ∀ v, FrN h (si (sl (si h' 0 15 (gi h' 0 14)) 0 17 0) 0 16 v) := fun v => (F.si (Or.inr (Or.inl rfl))).sl.si (Or.inr (Or.inr rfl))
  have B14 : ∀ v, gi (si (sl (si h' 0 15 (gi h' 0 14)) 0 17 0) 0 16 v) 0 14 = s := fun v => by rw [gi_nk (by decide), gi_xl, gi_nk (by decide), e14]
  have B15 : ∀ v, gi (si (sl (si h' 0 15 (gi h' 0 14)) 0 17 0) 0 16 v) 0 15 = s := fun v => by rw [gi_nk (by decide), gi_xl, gi_eq, e14]
  have B16 : ∀ v, gi (si (sl (si h' 0 15 (gi h' 0 14)) 0 17 0) 0 16 v) 0 16 = v := fun v => gi_eq
  have B17 : ∀ v, gl (si (sl (si h' 0 15 (gi h' 0 14)) 0 17 0) 0 16 v) 0 17 = 0 := fun v => by rw [gl_xi, gl_eq]
  refine l_X8_next_46 (fun h1 e1 h2 e2 => ?_)
  subst e2 e1
  have eT : s < n → gi (sl (si h' 0 15 (gi h' 0 14)) 0 17 0) 9 s = T s := fun z => by
    rw [gi_xl, gi_no (by decide)]
    exact (F.1 _ _ (by omega)).trans (hT _ (by omega) z)
  have eT' : s < n → gi h' 9 s = T s := fun z => (F.1 _ _ (by omega)).trans (hT _ (by omega) z)
  rw [e14] at A B14 B15 B16 B17 eT
  rw [e14, e13]
  refine ⟨fun c h6 e6 => ?_, fun c => ⟨by omega, fun c1 h5 e5 => ?_, fun c1 => ⟨by omega, fun c2 h4 e4 => ?_, fun c2 h3 e3 => ?_⟩⟩⟩
  · subst e6
    have z16 := B16 0
    refine l_X8_next_117 ⟨fun z => by omega, fun _ => l_X8_next_149 ⟨fun z => by omega, fun _ => l_X8_next_243 ⟨fun z => by omega, fun _ => k _ (A 0) (B14 0) ?_ ?_⟩⟩⟩
    · rw [B15]
      unfold tkF
      rw [if_pos (by omega)]
      exact c
    · unfold cdF nmF
      rw [if_pos (by omega), if_pos (by omega)]
      exact ⟨by omega, by omega, by omega, fun z => by omega, fun x x0 x1 x2 => by omega, fun x hx => by omega⟩
  all_goals have sn : s < n := by omega
  all_goals rw [eT' sn] at c1
  · subst e5
    have z16 := B16 1
    have r1 : ltL (T s) := c1
    have re : tEnd T n s = runTo ltL T n (s + 1) := by
      unfold tEnd
      rw [if_pos r1]
    have re2 := tEnd_R (T := T) sn
    refine l_X8_next_117 ⟨fun z => by omega, fun _ => lp_next_word (W := 0) (T := T) (p := s) (e := tEnd T n s) hT hn (by omega) (fun h'' F2 f14 f16 f15 f17 => k h'' F2 f14 ?_ ?_) (n - s).toNat 0 _ (A 1) (by omega) (B14 1) z16 ((B15 1).trans (by omega)) ((B17 1).trans rfl) (fun x x0 x1 => by omega) ?_⟩
    · rw [f15]
      unfold tkF
      rw [if_neg (by omega)]
    · unfold cdF nmF
      rw [if_neg (show ¬ n ≤ s by omega), if_neg (show ¬ n ≤ s by omega), if_pos r1, if_pos r1]
      refine Tk_word (lets_all (fun j j0 j1 => ?_)) f16 f17
      have q := (runTo_r (p := ltL) (T := T) (show s + 1 ≤ n by omega)).2.2.1
      rcases Int.lt_or_le s j with z | z
      · exact q j (by omega) (by omega)
      · have : j = s := by omega
        subst this
        exact r1
    · rw [re, runTo_go (by omega) (show ltL (T (s + (0 : Nat))) by rw [show s + ((0 : Nat) : Int) = s by omega]; exact r1)]
      congr 1
      omega
  · subst e4
    rw [eT' sn] at c2
    have z16 := B16 2
    have r1 : ¬ ltL (T s) := c1
    have r2 : ltD (T s) := c2
    have re : tEnd T n s = runTo ltD T n (s + 1) := by
      unfold tEnd
      rw [if_neg r1, if_pos r2]
    have re2 := tEnd_R (T := T) sn
    have b15 := B15 2
    have b17 := B17 2
    refine l_X8_next_117 ⟨fun z => by omega, fun _ => l_X8_next_149 ⟨fun z => by omega, fun _ => lp_next_num (T := T) (p := s) (e := tEnd T n s) (W := nuM T (tEnd T n s - s).toNat s 0) hT hn (by omega) (fun h'' F2 f14 f16 f15 f17 => k h'' F2 f14 ?_ ?_) (n - s).toNat _ (A 2) (by omega) (B14 2) z16 (by omega) (by omega) ?_ ?_⟩⟩
    · rw [f15]
      unfold tkF
      rw [if_neg (by omega)]
    · unfold cdF nmF
      rw [if_neg (show ¬ n ≤ s by omega), if_neg (show ¬ n ≤ s by omega), if_neg r1, if_neg r1, if_pos r2, if_pos r2]
      refine ⟨by omega, by omega, by omega, fun _ => ?_, fun x x0 x1 x2 => by omega, fun x hx => by omega⟩
      rw [f17]
      refine nu_eq _ _ _ _ (fun j j0 j1 => ?_) (by unfold nuR; omega)
      have q := (runTo_r (p := ltD) (T := T) (show s + 1 ≤ n by omega)).2.2.1
      rcases Int.lt_or_le s j with z | z
      · exact q j (by omega) (by omega)
      · have : j = s := by omega
        subst this
        exact r2
    · rw [re, b15, runTo_go (by omega) r2]
    · rw [b15, b17]
  · subst e3
    rw [eT' sn] at c2
    have z16 := B16 3
    have r1 : ¬ ltL (T s) := c1
    have r2 : ¬ ltD (T s) := c2
    have re : tEnd T n s = s + 1 := by
      unfold tEnd
      rw [if_neg r1, if_neg r2]
    have b15 := B15 3
    have b14 := B14 3
    refine l_X8_next_117 ⟨fun _ => ⟨by omega, fun h1 e1 => ⟨by omega, fun h2 e2 => ?_⟩⟩, fun z => by omega⟩
    subst e2 e1
    have e9 : gi (si (sl (si h' 0 15 s) 0 17 0) 0 16 3) 9 s = T s := by rw [gi_no (by decide)]; exact eT sn
    rw [b14, e9, b15]
    have y16 : gi (si (sl (si (sl (si h' 0 15 s) 0 17 0) 0 16 3) 0 17 (T s)) 0 15 (s + 1)) 0 16 = 3 := by rw [gi_nk (by decide), gi_xl, gi_eq]
    refine l_X8_next_149 ⟨fun z => by omega, fun _ => l_X8_next_243 ⟨fun z => by omega, fun _ => k _ ((A 3).sl.si (Or.inr (Or.inl rfl))) ?_ ?_ ?_⟩⟩
    · rw [gi_nk (by decide), gi_xl]
      exact b14
    · rw [gi_eq]
      unfold tkF
      rw [if_neg (by omega), re]
    · unfold cdF nmF
      rw [if_neg (show ¬ n ≤ s by omega), if_neg (show ¬ n ≤ s by omega), if_neg r1, if_neg r1, if_neg r2, if_neg r2]
      have y17 : gl (si (sl (si (sl (si h' 0 15 s) 0 17 0) 0 16 3) 0 17 (T s)) 0 15 (s + 1)) 0 17 = T s := by rw [gl_xi, gl_eq]
      have := hB s (by omega) sn
      exact ⟨by omega, by omega, by omega, fun z => by omega, fun x x0 x1 x2 => by omega, fun x hx => by omega⟩
end NEXT
