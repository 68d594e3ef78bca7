/-! the reference's pile, and what its code will be once the pile is settled -/
abbrev Cd : Type := (Int → Int) × (Int → Int) × Int
def codeH (h : AH) : Cd := (gi h 11, gi h 12, gi h 0 23)
def fl1 (e : Int × Int) (C : Cd) : Cd := if e.1 = 29 ∨ e.1 = 30 then (C.1, up1 C.2.1 e.2 C.2.2, C.2.2) else (up1 C.1 C.2.2 e.1, up1 C.2.1 C.2.2 0, C.2.2 + 1)
def flu : List (Int × Int) → Cd → Cd
  | [], C => C
  | e :: r, C => flu r (fl1 e C)
def cnt : List (Int × Int) → Int
  | [] => 0
  | e :: r => (if e.1 = 29 ∨ e.1 = 30 then 0 else 1) + cnt r
theorem cnt_app : ∀ (p q : List (Int × Int)), cnt (p ++ q) = cnt p + cnt q
  | [], q => by show cnt q = 0 + cnt q; omega
  | e :: r, q => by
    have := cnt_app r q
    show _ + cnt (r ++ q) = (_ + cnt r) + cnt q
    omega
theorem cnt_0 : ∀ (p : List (Int × Int)), 0 ≤ cnt p ∧ cnt p ≤ p.length
  | [] => by decide
  | e :: r => by
    have := cnt_0 r
    unfold cnt
    rw [List.length_cons]
    split <;> omega
theorem flu_app : ∀ (p q : List (Int × Int)) (C : Cd), flu (p ++ q) C = flu q (flu p C)
  | [], _, _ => rfl
  | e :: r, q, C => flu_app r q (fl1 e C)
theorem flu_n : ∀ (p : List (Int × Int)) (C : Cd), (flu p C).2.2 = C.2.2 + cnt p
  | [], C => by show C.2.2 = C.2.2 + 0; omega
  | e :: r, C => by
    have := flu_n r (fl1 e C)
    show (flu r (fl1 e C)).2.2 = C.2.2 + (_ + cnt r)
    rw [this]
    unfold fl1
    split <;> dsimp only <;> omega
theorem flu_keep {k : Int} : ∀ (p : List (Int × Int)) (C : Cd), (∀ e ∈ p, e.1 = 29 ∨ e.1 = 30 → k ≤ e.2) → k ≤ C.2.2 → ∀ x, x < k → (flu p C).1 x = C.1 x ∧ (flu p C).2.1 x = C.2.1 x
  | [], _, _, _, _, _ => ⟨rfl, rfl⟩
  | e :: r, C, h, hk, x, hx => by
    have he := h e List.mem_cons_self
    have ih := flu_keep (k := k) r (fl1 e C) (fun z hz => h z (List.mem_cons_of_mem _ hz)) (by unfold fl1; split <;> dsimp only <;> omega) x hx
    have q : (fl1 e C).1 x = C.1 x ∧ (fl1 e C).2.1 x = C.2.1 x := by
      unfold fl1
      by_cases c : e.1 = 29 ∨ e.1 = 30
      · rw [if_pos c]
        exact ⟨rfl, up1_ne (by have := he c; omega)⟩
      · rw [if_neg c]
        exact ⟨up1_ne (by omega), up1_ne (by omega)⟩
    exact ⟨ih.1.trans q.1, ih.2.trans q.2⟩
theorem flu_op : ∀ (p : List (Int × Int)) (C : Cd) (x : Int), x < C.2.2 → (flu p C).1 x = C.1 x
  | [], _, _, _ => rfl
  | e :: r, C, x, hx => by
    refine (flu_op r (fl1 e C) x (by unfold fl1; split <;> dsimp only <;> omega)).trans ?_
    unfold fl1
    split
    · rfl
    · exact up1_ne (by omega)
theorem giF_eq {h : AH} {a : Nat} {i v : Int} : gi (si h a i v) a = up1 (gi h a) i v := by
  funext x
  unfold up1
  rw [gi_si]
  by_cases z : x = i
  · rw [if_pos ⟨rfl, z⟩, if_pos z]
  · rw [if_neg (fun y => z y.2), if_neg z]
theorem giF_no {h : AH} {o a : Nat} {i v : Int} (e : o ≠ a) : gi (si h a i v) o = gi h o := funext (fun _ => gi_no e)
theorem code_pop {h : AH} {v a w : Int} : codeH (si (si h 0 29 v) 12 a w) = (gi h 11, up1 (gi h 12) a w, gi h 0 23) := by
  unfold codeH
  rw [giF_no (show (11 : Nat) ≠ 12 by decide), giF_no (show (11 : Nat) ≠ 0 by decide), giF_eq, giF_no (show (12 : Nat) ≠ 0 by decide), gi_no (by decide), gi_nk (by decide)]
/-- a piece of code more -/
def emi (h : AH) (o a : Int) : AH := si (si (si h 11 (gi h 0 23) o) 12 (gi h 0 23) a) 0 23 (gi h 0 23 + 1)
theorem code_emi {h : AH} {o a : Int} : codeH (emi h o a) = (up1 (gi h 11) (gi h 0 23) o, up1 (gi h 12) (gi h 0 23) a, gi h 0 23 + 1) := by
  unfold codeH emi
  rw [giF_no (show (11 : Nat) ≠ 0 by decide), giF_no (show (11 : Nat) ≠ 12 by decide), giF_eq, giF_no (show (12 : Nat) ≠ 0 by decide), giF_eq, giF_no (show (12 : Nat) ≠ 11 by decide), gi_eq]
theorem code_emit {h : AH} {v o a : Int} : codeH (si (si (si (si h 0 29 v) 11 (gi h 0 23) o) 12 (gi h 0 23) a) 0 23 (gi h 0 23 + 1)) = (up1 (gi h 11) (gi h 0 23) o, up1 (gi h 12) (gi h 0 23) a, gi h 0 23 + 1) := by
  unfold codeH
  rw [giF_no (show (11 : Nat) ≠ 0 by decide), giF_no (show (11 : Nat) ≠ 12 by decide), giF_eq, giF_no (show (11 : Nat) ≠ 0 by decide), giF_no (show (12 : Nat) ≠ 0 by decide), giF_eq, giF_no (show (12 : Nat) ≠ 11 by decide), giF_no (show (12 : Nat) ≠ 0 by decide), gi_eq]
def PileA (f g : Int → Int) : List (Int × Int) → Prop
  | [] => True
  | e :: r => f r.length = e.1 ∧ g r.length = e.2 ∧ PileA f g r
theorem PileA.congr {f g f' g' : Int → Int} : ∀ {P : List (Int × Int)}, PileA f g P → (∀ x, 0 ≤ x → x < P.length → f' x = f x ∧ g' x = g x) → PileA f' g' P
  | [], _, _ => True.intro
  | e :: r, H, h => by
    have := h r.length (by omega) (by rw [List.length_cons]; omega)
    exact ⟨this.1.trans H.1, this.2.trans H.2.1, PileA.congr H.2.2 (fun x x0 x1 => h x x0 (by rw [List.length_cons]; omega))⟩
def PileM (h : AH) (P : List (Int × Int)) : Prop := gi h 0 29 = P.length ∧ PileA (gi h 13) (gi h 14) P
theorem PileM.mk' {h h' : AH} {P : List (Int × Int)} (H : PileM h P) (e1 : gi h' 0 29 = gi h 0 29) (e2 : ∀ x, gi h' 13 x = gi h 13 x) (e3 : ∀ x, gi h' 14 x = gi h 14 x) : PileM h' P :=
  ⟨e1.trans H.1, H.2.congr (fun x _ _ => ⟨e2 x, e3 x⟩)⟩
/-- a push -/
def psh (h : AH) (o a : Int) : AH := si (si (si h 13 (gi h 0 29) o) 14 (gi h 0 29) a) 0 29 (gi h 0 29 + 1)
theorem PileM.push {h : AH} {P : List (Int × Int)} (H : PileM h P) (o a : Int) : PileM (psh h o a) ((o, a) :: P) := by
  unfold psh
  refine ⟨?_, ?_, ?_, H.2.congr (fun x x0 x1 => ?_)⟩
  · rw [gi_eq, H.1, List.length_cons]
    omega
  · rw [gi_no (by decide), gi_no (by decide), H.1, gi_eq]
  · rw [gi_no (by decide), H.1, gi_eq]
  · have := H.1
    exact ⟨by rw [gi_no (by decide), gi_no (by decide), gi_nk (by omega)], by rw [gi_no (by decide), gi_nk (by omega), gi_no (by decide)]⟩
theorem PileM.pop {h : AH} {e : Int × Int} {P : List (Int × Int)} (H : PileM h (e :: P)) : PileM (si h 0 29 (gi h 0 29 - 1)) P := by
  refine ⟨?_, H.2.2.2.congr (fun x _ _ => ⟨gi_no (by decide), gi_no (by decide)⟩)⟩
  rw [gi_eq, H.1, List.length_cons]
  omega
/-- the innermost bracket; whether a comparison waits -/
def inn : List (Int × Int) → Int
  | [] => -1
  | e :: r => if 31 ≤ e.1 then e.1 else inn r
def cmpP : List (Int × Int) → Int
  | [] => 0
  | e :: r => if 20 ≤ e.1 ∧ e.1 ≤ 24 then cmpP r else b2i (25 ≤ e.1 ∧ e.1 ≤ 27)
theorem innF_eq {f g : Int → Int} : ∀ {P : List (Int × Int)}, PileA f g P → innF f P.length = inn P
  | [], _ => rfl
  | e :: r, H => by
    have := innF_eq H.2.2
    rw [List.length_cons, innF, H.1, this]
    rfl
theorem cmpF_eq {f g : Int → Int} : ∀ {P : List (Int × Int)}, PileA f g P → cmpF f P.length = cmpP P
  | [], _ => rfl
  | e :: r, H => by
    have := cmpF_eq H.2.2
    rw [List.length_cons, cmpF, H.1, this]
    rfl
theorem inn_app : ∀ {p q : List (Int × Int)}, (∀ e ∈ p, e.1 ≤ 30) → inn (p ++ q) = inn q
  | [], _, _ => rfl
  | e :: r, q, h => by
    have := h e List.mem_cons_self
    show (if 31 ≤ e.1 then e.1 else inn (r ++ q)) = _
    rw [if_neg (by omega)]
    exact inn_app (fun z hz => h z (List.mem_cons_of_mem _ hz))
theorem cmp_app : ∀ {p q : List (Int × Int)}, (∀ e ∈ p, 20 ≤ e.1 ∧ e.1 ≤ 24) → cmpP (p ++ q) = cmpP q
  | [], _, _ => rfl
  | e :: r, q, h => by
    have := h e List.mem_cons_self
    show (if 20 ≤ e.1 ∧ e.1 ≤ 24 then cmpP (r ++ q) else _) = _
    rw [if_pos this]
    exact cmp_app (fun z hz => h z (List.mem_cons_of_mem _ hz))
def topB : List (Int × Int) → Int
  | [] => 0
  | e :: _ => zbin e.1
theorem zbin_5 {x : Int} (h : 20 ≤ x) (c : 5 ≤ zbin x) : x ≤ 24 := by unfold zbin at c; (repeat' split at c) <;> omega
theorem zbin_1 {x : Int} (c : 1 ≤ zbin x) : x ≤ 30 := by unfold zbin at c; (repeat' split at c) <;> omega
theorem zbin_R (x : Int) : 0 ≤ zbin x ∧ zbin x ≤ 6 := by unfold zbin; (repeat' split) <;> omega
/-- what settling may change -/
def FrT (a h : AH) : Prop := (∀ q x, ¬ (q = 11 ∨ q = 12 ∨ (q = 0 ∧ (x = 23 ∨ x = 29))) → gi h q x = gi a q x) ∧ gl h = gl a
theorem FrT.rfl' {a : AH} : FrT a a := ⟨fun _ _ _ => rfl, rfl⟩
theorem FrT.trans {a b c : AH} (x : FrT a b) (y : FrT b c) : FrT a c := ⟨fun q k z => (y.1 q k z).trans (x.1 q k z), y.2.trans x.2⟩
theorem FrT.si {a b : AH} (x : FrT a b) {q : Nat} {i v : Int} (h : q = 11 ∨ q = 12 ∨ (q = 0 ∧ (i = 23 ∨ i = 29))) : FrT a (si b q i v) := x.trans ⟨fun q' k z => by rw [gi_si, if_neg (fun e => z (by rw [e.1, e.2]; exact h))], rfl⟩
set_option maxRecDepth 20000 in
theorem lp_settle {d b : Nat} {Q : Option AV → AH → Prop} {h0 : AH} {least : Int} {P : List (Int × Int)} (hP : topB P < least) (hl : 1 ≤ least) (hPl : (P.length : Int) ≤ 400) (C : Cd)
    (k : ∀ h', FrT h0 h' → PileM h' P → codeH h' = C → Q none h') :
    ∀ (p : List (Int × Int)) (h : AH), FrT h0 h → PileM h (p ++ P) → (∀ e ∈ p, least ≤ zbin e.1 ∧ (e.1 = 29 ∨ e.1 = 30 → 0 ≤ e.2 ∧ e.2 < 400)) → 0 ≤ gi h 0 23 → gi h 0 23 + cnt p ≤ 400 → ((p ++ P).length : Int) ≤ 400 → flu p (codeH h) = C → Lp_X8_settle_0 d b Q least h
  | [], h, F, M, _, _, _, _, e => by
    refine l_X8_settle_0 ⟨fun _ => k h F M e, fun c => ?_⟩
    match P, hP, M, hPl with
    | [], _, M, _ =>
      have := M.1
      rw [List.nil_append, List.length_nil] at this
      omega
    | e :: r, hP, M, hPl =>
      have m1 := M.1
      have m2 := M.2.1
      rw [List.nil_append, List.length_cons] at m1
      rw [show (r.length : Int) = gi h 0 29 - 1 by omega] at m2
      rw [List.length_cons] at hPl
      exact ⟨by omega, by omega, fun _ => k h F M (by assumption), fun c2 => absurd (show zbin (gi h 13 (gi h 0 29 - 1)) < least by rw [m2]; exact hP) c2⟩
  | e :: p, h, F, M, hp, h0, h4, hL, eC => by
    replace M : PileM h (e :: (p ++ P)) := M
    have m1 := M.1
    have m2 := M.2.1
    have m3 := M.2.2.1
    rw [List.length_cons] at m1
    rw [List.cons_append, List.length_cons] at hL
    have ex : ((p ++ P).length : Int) = gi h 0 29 - 1 := by omega
    rw [ex] at m2 m3
    have he := hp e List.mem_cons_self
    have c0 := cnt_0 p
    unfold cnt at h4
    have ih := fun (h1 : AH) => lp_settle (d := d) (b := b) hP hl hPl C k p h1
    refine l_X8_settle_0 ⟨fun c => by omega, fun _ => ⟨by omega, by omega, fun c => by rw [m2] at c; omega, fun _ => ⟨by omega, fun h1 e1 => ⟨by omega, fun c => ?_, fun c => ⟨by omega, fun c' => ?_, fun c' => ?_⟩⟩⟩⟩⟩
    · have c2 : e.1 = 29 ∨ e.1 = 30 := by omega
      have c3 := he.2 c2
      rw [if_pos c2] at h4
      refine ⟨by omega, by omega, fun h2 e2 => ?_⟩
      subst e2 e1
      refine ih _ ((F.si (Or.inr (Or.inr ⟨rfl, Or.inr rfl⟩))).si (Or.inr (Or.inl rfl))) (M.pop.mk' (gi_no (by decide)) (fun x => gi_no (by decide)) (fun x => gi_no (by decide))) (fun z hz => hp z (List.mem_cons_of_mem _ hz)) ?_ ?_ (by omega) ?_
      · rw [gi_no (by decide), gi_nk (by decide)]; exact h0
      · rw [gi_no (by decide), gi_nk (by decide)]; omega
      · rw [← eC]
        show flu p _ = flu p (fl1 e (codeH h))
        congr 1
        unfold fl1
        rw [if_pos c2, m3]
        exact code_pop
    · have c2 : e.1 = 29 ∨ e.1 = 30 := by omega
      have c3 := he.2 c2
      rw [if_pos c2] at h4
      refine ⟨by omega, by omega, fun h2 e2 => ?_⟩
      subst e2 e1
      refine ih _ ((F.si (Or.inr (Or.inr ⟨rfl, Or.inr rfl⟩))).si (Or.inr (Or.inl rfl))) (M.pop.mk' (gi_no (by decide)) (fun x => gi_no (by decide)) (fun x => gi_no (by decide))) (fun z hz => hp z (List.mem_cons_of_mem _ hz)) ?_ ?_ (by omega) ?_
      · rw [gi_no (by decide), gi_nk (by decide)]; exact h0
      · rw [gi_no (by decide), gi_nk (by decide)]; omega
      · rw [← eC]
        show flu p _ = flu p (fl1 e (codeH h))
        congr 1
        unfold fl1
        rw [if_pos c2, m3]
        exact code_pop
    · have c2 : ¬ (e.1 = 29 ∨ e.1 = 30) := by omega
      rw [if_neg c2] at h4
      have y23 : gi h1 0 23 = gi h 0 23 := by rw [e1, gi_nk (by decide)]
      refine ⟨by omega, by omega, fun h3 e3 => ?_⟩
      rw [y23] at e3
      subst e3 e1
      refine ih _ ((((F.si (Or.inr (Or.inr ⟨rfl, Or.inr rfl⟩))).si (Or.inl rfl)).si (Or.inr (Or.inl rfl))).si (Or.inr (Or.inr ⟨rfl, Or.inl rfl⟩))) (M.pop.mk' (by rw [gi_nk (by decide), gi_no (by decide), gi_no (by decide)]) (fun x => by rw [gi_no (by decide), gi_no (by decide), gi_no (by decide)]) (fun x => by rw [gi_no (by decide), gi_no (by decide), gi_no (by decide)])) (fun z hz => hp z (List.mem_cons_of_mem _ hz)) ?_ ?_ (by omega) ?_
      · rw [gi_eq]; omega
      · rw [gi_eq]; omega
      · rw [← eC]
        show flu p _ = flu p (fl1 e (codeH h))
        congr 1
        unfold fl1
        rw [if_neg c2, m2]
        exact code_emit
theorem c_X8_settle {d b : Nat} {Q : Option AV → AH → Prop} {h : AH} {least : Int} {P p : List (Int × Int)} (hP : topB P < least) (hl : 1 ≤ least) (M : PileM h (p ++ P)) (hp : ∀ e ∈ p, least ≤ zbin e.1 ∧ (e.1 = 29 ∨ e.1 = 30 → 0 ≤ e.2 ∧ e.2 < 400)) (h0 : 0 ≤ gi h 0 23) (h4 : gi h 0 23 + cnt p ≤ 400) (hL : ((p ++ P).length : Int) ≤ 400)
    (k : ∀ h', FrT h h' → PileM h' P → codeH h' = flu p (codeH h) → Q none h') : WM GM (d + 1) b mX8_settle [vR (some 0), vI least] h Q :=
  w_X8_settle (lp_settle hP hl (by rw [List.length_append] at hL; omega) _ k p h FrT.rfl' M hp h0 h4 hL rfl)
