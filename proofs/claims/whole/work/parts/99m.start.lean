/-! the start: both heaps right behind the constructors -/
def E0 : AH := (0, fun _ => .inl 0, fun _ _ => 0, fun _ _ => 0, fun _ _ => none)
/-- from the numbers that the other parts use to the order in which the class makes its objects, and back -/
def tau (o : Nat) : Nat := if o < 14 then o else if o = 14 then 75 else if o < 50 then o + 25 else if o < 76 then o - 36 else o
def tai (c : Nat) : Nat := if c < 14 then c else if c < 40 then c + 36 else if c < 75 then c - 25 else if c = 75 then 14 else c
theorem tau_tai (c : Nat) : tau (tai c) = c := by
  unfold tau tai
  (repeat' split) <;> omega
theorem tai_tau (o : Nat) : tai (tau o) = o := by
  unfold tau tai
  (repeat' split) <;> omega
theorem tau_lt {o : Nat} (h : o < 76) : tau o < 76 := by
  unfold tau
  (repeat' split) <;> omega
theorem tai_lt {o : Nat} (h : o < 76) : tai o < 76 := by
  unfold tai
  (repeat' split) <;> omega
def pmH (h : AH) : AH := (h.1, (fun o => h.2.1 (tau o)), (fun o k => h.2.2.1 (tau o) k), (fun o k => h.2.2.2.1 (tau o) k), fun o k => (h.2.2.2.2 (tau o) k).map tai)
theorem pm_map (ad : Nat → Nat) (r : Option Nat) : (r.map tai).map (fun o => ad (tau o)) = r.map ad := by
  cases r with
  | none => rfl
  | some k =>
    show some (ad (tau (tai k))) = some (ad k)
    rw [tau_tai]
theorem fv_pm {ad : Nat → Nat} {h : AH} {o ci k : Nat} : fv (fun o => ad (tau o)) (pmH h) o ci k = fv ad h (tau o) ci k := by
  unfold fv
  rw [show rf (pmH h) o ((k : Nat) : Int) = (rf h (tau o) ((k : Nat) : Int)).map tai from rfl, pm_map]
  rfl
theorem ca_pm {ad : Nat → Nat} {h : AH} {o t : Nat} : ca (fun o => ad (tau o)) (pmH h) o t = ca ad h (tau o) t := by
  unfold ca
  rw [show (fun j : Nat => (rf (pmH h) o ((j : Nat) : Int)).map (fun o => ad (tau o))) = (fun j : Nat => (rf h (tau o) ((j : Nat) : Int)).map ad) from funext fun j => pm_map ad _]
  rfl
theorem ce_pm {cA : Nat → ClassId} {ad : Nat → Nat} {h : AH} {o : Nat} : ce cA (fun o => ad (tau o)) (pmH h) o = ce cA ad h (tau o) := by
  unfold ce
  rw [show kd (pmH h) o = kd h (tau o) from rfl]
  simp only [fv_pm, ca_pm]
section PM
variable {cA : Nat → ClassId} {ad : Nat → Nat} {h : AH}
theorem cw_pm {k : Nat} {q : Nat × va_E} (n76 : hn h = 76) (e : (cw cA (fun o => ad (tau o)) (pmH h))[k]? = some q) : (cw cA ad h)[tau k]? = some q := by
  obtain ⟨k1, k2⟩ := cw_inv e
  have k1 : k < hn h := k1
  rw [cw_get (show tau k < hn h by rw [n76]; exact tau_lt (by omega)), k2, ce_pm]
theorem va_P_pm {D : va_G} {cl : List vw_C} {H : Heap} (n76 : hn h = 76) (p : va_P D cl (cw cA ad h) H) : va_P D cl (cw cA (fun o => ad (tau o)) (pmH h)) H := fun k q e => p (tau k) q (cw_pm n76 e)
theorem va_D_pm {A : Nat → Prop} (n76 : hn h = 76) (d : va_D A (cw cA ad h)) : va_D A (cw cA (fun o => ad (tau o)) (pmH h)) :=
  ⟨fun i j x y e1 e2 e => by
    have w := d.1 _ _ x y (cw_pm n76 e1) (cw_pm n76 e2) e
    rw [← tai_tau i, w, tai_tau], fun k q e => d.2 _ q (cw_pm n76 e)⟩
theorem okH_pm (n76 : hn h = 76) (o : OkH h) : OkH (pmH h) := ⟨fun a k => o.1 (tau a) k, fun a k => o.2.1 (tau a) k, fun a k r e => by
  have e : (rf h (tau a) k).map tai = some r := e
  obtain ⟨r0, e0, e1⟩ := Option.map_eq_some_iff.mp e
  have w := o.2.2 _ _ _ e0
  show r < hn h
  rw [n76] at w ⊢
  rw [← e1]
  exact tai_lt w⟩
end PM
/-- the class's heap right behind its constructor, in the order of making; and by the numbers that the other parts use -/
def hXc : AH := fleetH (nwn E0 0 (.inl 7)) 0 1
def hXs : AH := pmH hXc
theorem hnXc : hn hXc = 76 := by decide +kernel
def hMs : AH := modelH (nwn E0 0 (.inl 8)) 0 1
theorem hnX : hn hXs = 76 := by decide +kernel
theorem hnM : hn hMs = 32 := by decide +kernel
set_option maxRecDepth 100000 in
theorem kdX : ∀ o : Nat, o < 76 → gxk[o]? = some (kd hXs o) := by decide +kernel
set_option maxRecDepth 100000 in
theorem kdM : ∀ o : Nat, o < 32 → gmk[o]? = some (kd hMs o) := by decide +kernel
set_option maxRecDepth 100000 in
theorem rfX : ∀ o : Nat, o < 76 → ∀ k : Nat, k < 20 → ((gxr.getD o []).getD k none = none ∨ rf hXs o (k : Int) = (gxr.getD o []).getD k none) := by decide +kernel
set_option maxRecDepth 100000 in
theorem rfM : ∀ o : Nat, o < 32 → ∀ k : Nat, k < 58 → ((gmr.getD o []).getD k none = none ∨ rf hMs o (k : Int) = (gmr.getD o []).getD k none) := by decide +kernel
theorem lenX : ∀ o : Nat, o < 76 → (gxr.getD o []).length ≤ 20 := by decide +kernel
theorem lenM : ∀ o : Nat, o < 32 → (gmr.getD o []).length ≤ 58 := by decide +kernel
theorem lenG : gmr.length ≤ 32 := by decide +kernel
theorem getD_out {α : Type} {l : List α} {k : Nat} {d : α} (h : l.length ≤ k) : l.getD k d = d := by
  rw [List.getD_eq_getElem?_getD, List.getElem?_eq_none h]
  rfl
theorem gdX : Gd GX hXs := by
  refine ⟨fun o t z => ?_, fun o k r z => ?_⟩
  · have z : gxk[o]? = some t := z
    have ho : o < 76 := (List.getElem?_eq_some_iff.mp z).1
    have := kdX o ho
    rw [z] at this
    exact ⟨(Option.some.inj this).symm, by rw [hnX]; exact ho⟩
  · match k, z with
    | .ofNat k, z =>
      have z : (gxr.getD o []).getD k none = some r := z
      by_cases ho : o < 76
      · by_cases hk : k < 20
        · rcases rfX o ho k hk with w | w
          · rw [w] at z
            cases z
          · exact w.trans z
        · rw [getD_out (Nat.le_trans (lenX o ho) (by omega))] at z
          cases z
      · rw [getD_out (l := gxr) (by show 76 ≤ o; omega)] at z
        cases z
    | .negSucc _, z => cases z
theorem gdM : Gd GM hMs := by
  refine ⟨fun o t z => ?_, fun o k r z => ?_⟩
  · have z : gmk[o]? = some t := z
    have ho : o < 32 := (List.getElem?_eq_some_iff.mp z).1
    have := kdM o ho
    rw [z] at this
    exact ⟨(Option.some.inj this).symm, by rw [hnM]; exact ho⟩
  · match k, z with
    | .ofNat k, z =>
      have z : (gmr.getD o []).getD k none = some r := z
      by_cases ho : o < 32
      · by_cases hk : k < 58
        · rcases rfM o ho k hk with w | w
          · rw [w] at z
            cases z
          · exact w.trans z
        · rw [getD_out (Nat.le_trans (lenM o ho) (by omega))] at z
          cases z
      · rw [getD_out (l := gmr) (Nat.le_trans lenG (by omega))] at z
        cases z
    | .negSucc _, z => cases z
/-- the reference's row at the start -/
theorem rowM (k : Int) : gi hMs 2 k = if 39 ≤ k ∧ k < 64 then 10 else if k = 4 then -1 else 0 := by
  have : gi hMs 2 k = if (2 : Nat) = 1 + 1 ∧ 39 ≤ k ∧ k < 39 + 25 then 10 else if (2 : Nat) = 1 + 1 ∧ k = 4 then -1 else 0 := rfl
  rw [this]
  by_cases c : 39 ≤ k ∧ k < 64
  · rw [if_pos c, if_pos ⟨rfl, by omega⟩]
  · rw [if_neg c, if_neg (by omega)]
    by_cases c4 : k = 4
    · rw [if_pos c4, if_pos ⟨rfl, c4⟩]
    · rw [if_neg c4, if_neg (by omega)]
theorem risX : ∀ k : Nat, k < 137 → (k < 31 ∨ 39 ≤ k) → gi hMs 2 (k : Int) = gi hXs (1 + la (k : Int)) (lb (k : Int)) := by decide +kernel
theorem invM : InvR (gi hMs 2) := by
  have e : ∀ k : Int, k ≠ 4 → ¬ (39 ≤ k ∧ k < 64) → gi hMs 2 k = 0 := fun k a b => by rw [rowM, if_neg b, if_neg a]
  have e4 : gi hMs 2 4 = -1 := by rw [rowM]; rfl
  have e0 := e 0 (by decide) (by decide)
  have e1 := e 1 (by decide) (by decide)
  have e2 := e 2 (by decide) (by decide)
  have e3 := e 3 (by decide) (by decide)
  have e5 := e 5 (by decide) (by decide)
  have e6 := e 6 (by decide) (by decide)
  refine ⟨by rw [e0, e1, e2, e3, e4, e5, e6]; decide, fun d d0 d1 => by omega, fun d f d0 d1 d2 => by omega, fun c c0 c1 => ?_, fun k k0 k1 => by omega, fun k k0 k1 => by omega, fun i i0 i1 k k0 k1 => ?_⟩
  · rw [rowM, if_pos (by omega), e (104 + c) (by omega) (by omega)]
    omega
  · have a1 : cOp (lawC (gi hMs 2) i) k = 0 := by
      show lawC _ _ (98 + 2 * k) = 0
      rw [lawC_at (by omega)]
      exact e _ (by omega) (by omega)
    have a2 : cArg (lawC (gi hMs 2) i) k = 0 := by
      show lawC _ _ (98 + 2 * k + 1) = 0
      rw [lawC_at (by omega)]
      exact e _ (by omega) (by omega)
    rw [a1, a2]
    omega
theorem lawX : ∀ k : Nat, k < 6 → rf hXs 13 (k : Int) = none := by decide +kernel
theorem bytX (k : Int) : gi hXs 30 k = 0 := rfl
theorem wayX (k : Int) : gi hXs 46 k = 0 := rfl
theorem bytM (k : Int) : gi hMs 9 k = 0 := rfl
theorem numX : gi hXs 41 1 = 0 ∧ gi hXs 15 0 = 0 ∧ gi hXs 15 1 = 0 ∧ gi hXs 0 4 = 0 ∧ gi hXs 29 1 = 0 ∧ gi hXs 31 8 = -1 ∧ gi hXs 0 10 = 0 ∧ gi hXs 0 11 = -1 ∧ gi hXs 0 14 = 0 ∧ gi hXs 14 0 = 0 ∧ gi hXs 14 1 = 0 ∧ gi hXs 14 2 = 0 ∧ gi hXs 14 3 = 0 ∧ gi hXs 14 4 = 0 := by decide +kernel
theorem numM : gi hMs 0 8 = 0 ∧ gi hMs 4 0 = 0 ∧ gi hMs 4 1 = 0 ∧ gi hMs 0 57 = -1 ∧ gi hMs 0 13 = 0 ∧ gi hMs 0 18 = -1 ∧ gi hMs 0 11 = 0 ∧ gi hMs 0 52 = -1 ∧ gi hMs 0 1 = 0 ∧ gi hMs 0 20 = 0 := by decide +kernel
theorem refM (k : Int) : gi hMs 1 k = 0 := rfl
theorem tabM : (∀ k : Nat, k < 11 → gl hMs 15 k = wTab.getD k 0) ∧ (∀ k : Nat, k < 7 → gl hMs 16 k = oTab.getD k 0) ∧ (∀ k : Nat, k < 4 → gl hMs 17 k = hTab.getD k 0) ∧ ∀ k : Nat, k < 5 → gl hMs 28 k = aTab.getD k 0 := by decide +kernel
theorem rr0 : RR 0 hXs hMs := by
  have nX := numX
  have nM := numM
  obtain ⟨x1, x2, x3, x4, x5, x6, x7, x8, x9, y0, y1, y2, y3, y4⟩ := nX
  obtain ⟨m1, m2, m3, m4, m5, m6, m7, m8, m9, m10⟩ := nM
  refine ⟨⟨fun k hk => ?_, ⟨fun i i0 i1 => ?_, fun i t i0 i1 ht => ?_⟩, invM⟩, RU.none x1 m1, fun k hk => ?_, ⟨Or.inl ⟨x4, m4⟩, fun k => wayX _⟩, ⟨⟨by omega, by omega, by omega, fun i _ _ => ⟨by rw [bytX, bytM], by rw [bytM]; decide⟩⟩, by omega, by omega, by omega, by omega, ⟨by rw [y0, refM], by rw [y1, refM], by rw [y2, refM], by rw [y3, refM], by rw [y4, refM]⟩, fun k _ _ => by rw [refM]; decide, by decide⟩, ⟨m10, tabM⟩, by rw [hnX]; decide⟩
  · unfold okP at hk
    have := risX k.toNat (by omega) (by omega)
    rw [show ((k.toNat : Nat) : Int) = k by omega] at this
    exact this
  · have : gi hMs 2 3 = 0 := by rw [rowM]; rfl
    omega
  · have := lawX i.toNat (by omega)
    rw [show ((i.toNat : Nat) : Int) = i by omega] at this
    have ht : rf hXs 13 i = some t := ht
    rw [this] at ht
    cases ht
  · have : k = 0 ∨ k = 1 := by omega
    rcases this with z | z <;> subst z
    · exact ⟨by show gi hXs 15 0 = gi hMs 4 0; omega, Or.inl m2⟩
    · exact ⟨by show gi hXs 15 1 = gi hMs 4 1; omega, Or.inl m3⟩
