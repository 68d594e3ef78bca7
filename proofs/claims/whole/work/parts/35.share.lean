/-! share -/
theorem sumZ_s (f : Int → Int) (n : Nat) (i : Int) : sumZ f (n + 1) i = f i + sumZ f n (i + 1) := rfl
theorem sumZ_0 (f : Int → Int) (i : Int) : sumZ f 0 i = 0 := rfl
theorem sumZ_add (f g : Int → Int) : ∀ (n : Nat) (i : Int), sumZ (fun j => f j + g j) n i = sumZ f n i + sumZ g n i
  | 0, _ => rfl
  | n + 1, i => by
    rw [sumZ_s, sumZ_s, sumZ_s, sumZ_add f g n (i + 1)]
    omega
theorem sumZ_mul (c : Int) (f : Int → Int) : ∀ (n : Nat) (i : Int), sumZ (fun j => c * f j) n i = c * sumZ f n i
  | 0, _ => by rw [sumZ_0, sumZ_0, Int.mul_zero]
  | n + 1, i => by rw [sumZ_s, sumZ_s, sumZ_mul c f n (i + 1), Int.mul_add]
theorem sumZ_mono {f g : Int → Int} : ∀ (n : Nat) (i : Int), (∀ j, i ≤ j → j < i + n → f j ≤ g j) → sumZ f n i ≤ sumZ g n i
  | 0, _, _ => Int.le_refl _
  | n + 1, i, h => by
    rw [sumZ_s, sumZ_s]
    have h1 := h i (by omega) (by omega)
    have h2 := sumZ_mono (f := f) (g := g) n (i + 1) (fun j a b => h j (by omega) (by omega))
    omega
theorem sumZ_lt {f g : Int → Int} {x : Int} : ∀ (n : Nat) (i : Int), (∀ j, i ≤ j → j < i + n → f j ≤ g j) → i ≤ x → x < i + n → f x < g x → sumZ f n i < sumZ g n i
  | 0, _, _, h1, h2, _ => by omega
  | n + 1, i, h, h1, h2, h3 => by
    rw [sumZ_s, sumZ_s]
    have h4 := h i (by omega) (by omega)
    by_cases e : x = i
    · have h5 := sumZ_mono (f := f) (g := g) n (i + 1) (fun j a b => h j (by omega) (by omega))
      rw [e] at h3
      omega
    · have h5 := sumZ_lt (f := f) (g := g) n (i + 1) (fun j a b => h j (by omega) (by omega)) (by omega) (by omega) h3
      omega
theorem sumZ_one : ∀ (n : Nat) (i : Int), sumZ (fun _ => 1) n i = n
  | 0, _ => rfl
  | n + 1, i => by rw [sumZ_s, sumZ_one n (i + 1)]; omega
def shW (r : Int → Int) (d : Int) : Int := if r (15 + d) = -1 then 0 else r (72 + d)
def shA (r : Int → Int) : Int := sumZ (shW r) (r 1).toNat 0
def shQ (r : Int → Int) (wh d : Int) : Int := wh * shW r d / shA r
def shR (r : Int → Int) (wh d : Int) : Int := wh * shW r d % shA r
def shL (r : Int → Int) (wh : Int) : Int := wh - sumZ (shQ r wh) (r 1).toNat 0
abbrev shB (r : Int → Int) (wh x d : Int) : Prop := shR r wh x < shR r wh d ∨ (shR r wh d = shR r wh x ∧ d < x)
def shN (r : Int → Int) (wh x : Int) : Int := sumZ (fun d => b2i (r (15 + d) ≠ -1 ∧ shB r wh x d)) (r 1).toNat 0
def fShare (r : Int → Int) (wh x : Int) : Int := if (0 ≤ wh ∧ wh ≤ 99999) ∧ (0 ≤ x ∧ x < r 1) ∧ r (15 + x) ≠ -1 then shQ r wh x + (if shN r wh x < shL r wh then 1 else 0) else -1
/-- what holds of shares: x is a door at sea -/
def ShK (r : Int → Int) (wh x : Int) : Prop := (0 ≤ r 1 ∧ r 1 ≤ 8) ∧ (0 ≤ wh ∧ wh ≤ 99999) ∧ (0 ≤ x ∧ x < r 1 ∧ r (15 + x) ≠ -1) ∧ ∀ d, 0 ≤ d → d < r 1 → 1 ≤ r (72 + d) ∧ r (72 + d) ≤ 9
section SHARE
variable {r : Int → Int} {wh x : Int}
theorem ShK.w (H : ShK r wh x) {d : Int} (h0 : 0 ≤ d) (h1 : d < r 1) : 0 ≤ shW r d ∧ shW r d ≤ 9 ∧ (r (15 + d) = -1 → shW r d = 0) ∧ (r (15 + d) ≠ -1 → shW r d = r (72 + d)) := by
  have := H.2.2.2 d h0 h1
  unfold shW
  split
  · rename_i c
    exact ⟨by omega, by omega, fun _ => rfl, fun z => absurd c z⟩
  · rename_i c
    exact ⟨by omega, by omega, fun z => absurd z c, fun _ => rfl⟩
theorem ShK.a (H : ShK r wh x) : 1 ≤ shA r ∧ shA r ≤ 72 := by
  have hn := H.1
  have hx := H.2.2.1
  have h1 := sumZ_le (f := shW r) (m := 9) (r 1).toNat 0 (fun j j0 j1 => by have := H.w (d := j) j0 (by omega); omega)
  have h2 := sumZ_lt (f := fun _ => 0) (g := shW r) (x := x) (r 1).toNat 0 (fun j j0 j1 => (H.w (d := j) j0 (by omega)).1) hx.1 (by omega) (by
    have h3 := (H.w hx.1 hx.2.1).2.2.2 hx.2.2
    have h4 := H.2.2.2 x hx.1 hx.2.1
    omega)
  have h3 := sumZ_le (f := fun _ => 0) (m := 0) (r 1).toNat 0 (fun j j0 j1 => by decide)
  unfold shA
  omega
theorem ShK.p (H : ShK r wh x) {d : Int} (h0 : 0 ≤ d) (h1 : d < r 1) : 0 ≤ wh * shW r d ∧ wh * shW r d ≤ 899991 := by
  have w := H.w h0 h1
  have h2 := H.2.1
  have h3 : 0 ≤ wh * shW r d := Int.mul_nonneg h2.1 w.1
  have h4 : wh * shW r d ≤ wh * 9 := Int.mul_le_mul_of_nonneg_left w.2.1 h2.1
  omega
theorem ShK.qr (H : ShK r wh x) {d : Int} (h0 : 0 ≤ d) (h1 : d < r 1) : 0 ≤ shQ r wh d ∧ shQ r wh d ≤ 899991 ∧ 0 ≤ shR r wh d ∧ shR r wh d < shA r ∧ shA r * shQ r wh d + shR r wh d = wh * shW r d := by
  have a := H.a
  have p := H.p h0 h1
  unfold shQ shR
  have e := Int.mul_ediv_add_emod (wh * shW r d) (shA r)
  have m0 := Int.emod_nonneg (wh * shW r d) (show shA r ≠ 0 by omega)
  have m1 := Int.emod_lt_of_pos (wh * shW r d) (show 0 < shA r by omega)
  have q0 := Int.ediv_nonneg p.1 (show 0 ≤ shA r by omega)
  have q1 := Int.ediv_le_self (shA r) p.1
  exact ⟨q0, by omega, m0, m1, e⟩
theorem ShK.sum (H : ShK r wh x) : shA r * shL r wh = sumZ (shR r wh) (r 1).toNat 0 := by
  have hn := H.1
  have e1 : sumZ (fun d => shA r * shQ r wh d + shR r wh d) (r 1).toNat 0 = sumZ (fun d => wh * shW r d) (r 1).toNat 0 := sumZ_congr _ _ (fun j j0 j1 => (H.qr (d := j) j0 (by omega)).2.2.2.2)
  rw [sumZ_add (fun d => shA r * shQ r wh d) (shR r wh), sumZ_mul (shA r) (shQ r wh), sumZ_mul wh (shW r), show sumZ (shW r) (r 1).toNat 0 = shA r from rfl] at e1
  unfold shL
  rw [Int.mul_sub, Int.mul_comm (shA r) wh]
  omega
def shP (r : Int → Int) (wh : Int) : Int := sumZ (fun d => b2i (0 < shR r wh d)) (r 1).toNat 0
theorem ShK.l (H : ShK r wh x) : 0 ≤ shL r wh ∧ shL r wh ≤ shP r wh ∧ shP r wh ≤ r 1 := by
  have hn := H.1
  have a := H.a
  have e := H.sum
  have h1 : 0 ≤ sumZ (shR r wh) (r 1).toNat 0 := by
    have h3 := sumZ_le (f := fun _ => 0) (m := 0) (r 1).toNat 0 (fun j j0 j1 => by decide)
    have := sumZ_mono (f := fun _ => 0) (g := shR r wh) (r 1).toNat 0 (fun j j0 j1 => (H.qr (d := j) j0 (by omega)).2.2.1)
    omega
  have h2 : sumZ (shR r wh) (r 1).toNat 0 ≤ shA r * shP r wh := by
    unfold shP
    rw [← sumZ_mul]
    refine sumZ_mono _ _ (fun j j0 j1 => ?_)
    have := (H.qr (d := j) j0 (by omega)).2.2
    by_cases c : 0 < shR r wh j
    · rw [b2i_t c, Int.mul_one]; omega
    · rw [b2i_f c, Int.mul_zero]; omega
  refine ⟨?_, ?_, ?_⟩
  · rw [← e] at h1
    exact Int.le_of_mul_le_mul_left (by rw [Int.mul_zero]; exact h1) (show 0 < shA r by omega)
  · rw [← e] at h2
    exact Int.le_of_mul_le_mul_left h2 (show 0 < shA r by omega)
  · have := sumZ_mono (f := fun d => b2i (0 < shR r wh d)) (g := fun _ => 1) (r 1).toNat 0 (fun j j0 j1 => (b2i_le _).2)
    rw [sumZ_one] at this
    unfold shP
    omega
/-- who is taken: t (1: taken); as many as are left -/
theorem ShK.fin (H : ShK r wh x) {t : Int → Int} (h01 : ∀ d, 0 ≤ d → d < r 1 → t d = 0 ∨ t d = 1) (hs : sumZ t (r 1).toNat 0 = shL r wh) (ho : ∀ d e, 0 ≤ d → d < r 1 → 0 ≤ e → e < r 1 → t d = 1 → t e = 0 → shB r wh e d) : t x = if shN r wh x < shL r wh then 1 else 0 := by
  have hn := H.1
  have hx := H.2.2.1
  have l := H.l
  rcases h01 x hx.1 hx.2.1 with c | c
  · rw [if_neg, c]
    have g : ∀ p : Int → Int, (∀ j, 0 ≤ j → j < r 1 → p j ≤ b2i (r (15 + j) ≠ -1 ∧ shB r wh x j)) → sumZ p (r 1).toNat 0 ≤ shN r wh x := fun p hp => sumZ_mono _ _ (fun j j0 j1 => hp j j0 (by omega))
    by_cases z : 0 < shR r wh x
    · have := g t (fun j j0 j1 => by
        rcases h01 j j0 j1 with e | e
        · rw [e]; exact (b2i_le _).1
        · have b := ho j x j0 j1 hx.1 hx.2.1 e c
          have sea : r (15 + j) ≠ -1 := fun w => by
            have w0 := (H.w j0 j1).2.2.1 w
            have : shR r wh j = 0 := by unfold shR; rw [w0, Int.mul_zero, Int.zero_emod]
            omega
          rw [e, b2i_t ⟨sea, b⟩]
          exact Int.le_refl _)
      omega
    · have := g (fun d => b2i (0 < shR r wh d)) (fun j j0 j1 => by
        by_cases e : 0 < shR r wh j
        · have sea : r (15 + j) ≠ -1 := fun w => by
            have w0 := (H.w j0 j1).2.2.1 w
            have : shR r wh j = 0 := by unfold shR; rw [w0, Int.mul_zero, Int.zero_emod]
            omega
          rw [b2i_t e, b2i_t ⟨sea, Or.inl (by omega)⟩]
          exact Int.le_refl _
        · rw [b2i_f e]; exact (b2i_le _).1)
      unfold shP at l
      omega
  · rw [if_pos, c]
    have := sumZ_lt (f := fun d => b2i (r (15 + d) ≠ -1 ∧ shB r wh x d)) (g := t) (x := x) (r 1).toNat 0 (fun j j0 j1 => by
      rcases h01 j j0 (by omega) with e | e
      · rw [e]
        refine Int.le_of_eq (b2i_f (fun z => ?_))
        have b := ho x j hx.1 hx.2.1 j0 (by omega) c e
        have := z.2
        omega
      · rw [e]
        exact (b2i_le _).2) hx.1 (by omega) (by
      rw [c, b2i_f (fun z => by have := z.2; omega)]
      decide)
    unfold shN
    omega
end SHARE
theorem RA.shK {h : AH} {o : Nat} {r : Int → Int} (A : RA h o r) {wh x : Int} (h1 : 0 ≤ wh ∧ wh ≤ 99999) (h2 : 0 ≤ x ∧ x < r 1) (h3 : r (15 + x) ≠ -1) : ShK r wh x := by
  have I1 := A.2.2.1
  exact ⟨by omega, h1, ⟨h2.1, h2.2, h3⟩, fun d d0 d1 => by have := A.2.2.2.1 d d0 d1; omega⟩
theorem lp_shX2 {d b : Nat} {Q : Option AV → AH → Prop} {h : AH} {r : Int → Int} {wh x : Int} (A : RA h 1 r) (H : ShK r wh x) (k : Q (some (vI (shQ r wh x + (if shN r wh x < shL r wh then 1 else 0)))) h) : ∀ (n : Nat) (i l a : Int), 0 ≤ i → i + n = r 1 → l - sumZ (shQ r wh) n i = shL r wh → a + sumZ (fun d => b2i (r (15 + d) ≠ -1 ∧ shB r wh x d)) n i = shN r wh x → 0 ≤ a ∧ a ≤ i → l ≤ wh ∧ wh - 899991 * i ≤ l → Lp_X2_shareOf_68 d b Q wh x (shA r) l a (shR r wh x) i h
  | n, i, l, a, i0, e, hl, ha, hb, hl2 => by
    have hx := H.2.2.1
    have hn := H.1
    have hw := H.2.1
    have sa := H.a
    have e1 := A.1.doors
    have qx := H.qr hx.1 hx.2.1
    have px := H.p hx.1 hx.2.1
    have ewx : gi h 3 x = shW r x := by rw [(H.w hx.1 hx.2.1).2.2.2 hx.2.2]; exact (A.1.wide (d := x) (by omega)).symm
    match n, e, hl, ha with
    | 0, e, hl, ha =>
      rw [sumZ_0] at hl ha
      refine l_X2_shareOf_68 ⟨fun _ => ?_, fun c => absurd (by omega) c⟩
      rw [ewx, tdiv_e px.1]
      refine ⟨by omega, by omega, by omega, ?_, fun c => ⟨?_, ?_⟩, fun c => ⟨?_, ?_⟩⟩
      · show R32 (shQ r wh x)
        omega
      · show R32 (shQ r wh x + 0)
        omega
      · rw [if_neg (by omega)] at k; exact k
      · show R32 (shQ r wh x + 1)
        omega
      · rw [if_pos (by omega)] at k; exact k
    | n + 1, e, hl, ha =>
      rw [sumZ_s] at hl ha
      have qi := H.qr (d := i) i0 (by omega)
      have pi := H.p (d := i) i0 (by omega)
      have wi := H.w (d := i) i0 (by omega)
      have ec := A.1.cell (d := i) (by omega)
      have ew := A.1.wide (d := i) (by omega)
      refine l_X2_shareOf_68 ⟨fun c => by omega, fun _ => ⟨by omega, fun c => ⟨by omega, ?_⟩, fun c => ?_⟩⟩
      · have z : shW r i = 0 := wi.2.2.1 (ec.trans c)
        have zq : shQ r wh i = 0 := by unfold shQ; rw [z, Int.mul_zero, Int.zero_ediv]
        rw [b2i_f (fun w => w.1 (ec.trans c))] at ha
        exact lp_shX2 A H k n (i + 1) l a (by omega) (by omega) (by omega) (by omega) (by omega) (by omega)
      · have sea : r (15 + i) ≠ -1 := fun z => c (ec.symm.trans z)
        have z : gi h 3 i = shW r i := by rw [wi.2.2.2 sea]; exact ew.symm
        rw [z, tdiv_e pi.1, tmod_e pi.1]
        rw [show wh * shW r i / shA r = shQ r wh i from rfl, show wh * shW r i % shA r = shR r wh i from rfl]
        refine ⟨by omega, by omega, by omega, by omega, by omega, by omega, by omega, by omega, by omega, fun c1 => ⟨by omega, by omega, ?_⟩, fun c1 => ⟨fun c2 => ⟨fun c3 => ⟨by omega, ?_⟩, fun c3 => ⟨by omega, by omega, ?_⟩⟩, fun c2 => ⟨by omega, ?_⟩⟩⟩
        · rw [b2i_t ⟨sea, Or.inl c1⟩] at ha
          exact lp_shX2 A H k n (i + 1) _ _ (by omega) (by omega) (by omega) (by omega) (by omega) (by omega)
        · rw [b2i_f (fun w => by have := w.2; omega)] at ha
          exact lp_shX2 A H k n (i + 1) _ _ (by omega) (by omega) (by omega) (by omega) (by omega) (by omega)
        · rw [b2i_t ⟨sea, Or.inr ⟨c2, by omega⟩⟩] at ha
          exact lp_shX2 A H k n (i + 1) _ _ (by omega) (by omega) (by omega) (by omega) (by omega) (by omega)
        · rw [b2i_f (fun w => by have := w.2; omega)] at ha
          exact lp_shX2 A H k n (i + 1) _ _ (by omega) (by omega) (by omega) (by omega) (by omega) (by omega)
theorem lp_shX1 {d b : Nat} {Q : Option AV → AH → Prop} {h : AH} {r : Int → Int} {wh x : Int} (A : RA h 1 r) (H : ShK r wh x) (k : Q (some (vI (shQ r wh x + (if shN r wh x < shL r wh then 1 else 0)))) h) : ∀ (n : Nat) (i s : Int), 0 ≤ i → i + n = r 1 → s + sumZ (shW r) n i = shA r → 0 ≤ s ∧ s ≤ 9 * i → Lp_X2_shareOf_5 d b Q wh x s i h
  | 0, i, s, i0, e, hs, hb => by
    have hx := H.2.2.1
    have hn := H.1
    have sa := H.a
    have e1 := A.1.doors
    have px := H.p hx.1 hx.2.1
    have qx := H.qr hx.1 hx.2.1
    have ewx : gi h 3 x = shW r x := by rw [(H.w hx.1 hx.2.1).2.2.2 hx.2.2]; exact (A.1.wide (d := x) (by omega)).symm
    rw [sumZ_0, Int.add_zero] at hs
    subst hs
    refine l_X2_shareOf_5 ⟨fun _ => ⟨fun c => by omega, fun _ => ?_⟩, fun c => absurd (by omega) c⟩
    rw [ewx, tmod_e px.1]
    rw [show wh * shW r x % shA r = shR r wh x from rfl]
    refine ⟨by omega, by omega, by omega, by omega, ?_⟩
    exact lp_shX2 A H k (r 1).toNat 0 wh 0 (by decide) (by omega) rfl (by rw [Int.zero_add]; rfl) (by decide) (by omega)
  | n + 1, i, s, i0, e, hs, hb => by
    have hn := H.1
    have e1 := A.1.doors
    have wi := H.w (d := i) i0 (by omega)
    have ec := A.1.cell (d := i) (by omega)
    have ew := A.1.wide (d := i) (by omega)
    rw [sumZ_s] at hs
    refine l_X2_shareOf_5 ⟨fun c => by omega, fun _ => ⟨by omega, fun c => ⟨by omega, ?_⟩, fun c => ?_⟩⟩
    · have z : shW r i = 0 := wi.2.2.1 (ec.trans c)
      exact lp_shX1 A H k n (i + 1) s (by omega) (by omega) (by omega) (by omega)
    · have z : gi h 3 i = shW r i := by rw [wi.2.2.2 (fun z => c (ec.symm.trans z))]; exact ew.symm
      rw [z]
      exact ⟨by omega, by omega, by omega, lp_shX1 A H k n (i + 1) _ (by omega) (by omega) (by omega) (by omega)⟩
theorem cX_share {d b : Nat} {Q : Option AV → AH → Prop} {h : AH} {r : Int → Int} {x1 x2 : Int} (A : RA h 1 r) (k : ∀ h', KX h h' → Q (some (vI (fShare r x1 x2))) h') : WM GX (d + 1) b mX7_share [vR (some 0), vI x1, vI x2] h Q := by
  have I1 := A.2.2.1
  have e1 := A.1.doors
  have k0 := k h KX.rfl'
  unfold fShare at k0
  refine w_X7_share ?_
  intro _ _
  refine ⟨fun c => ?_, fun c => ⟨fun c1 => ?_, fun c1 => ⟨fun c2 => ⟨by omega, fun c3 => ?_, fun c3 => ?_⟩, fun c2 => ?_⟩⟩⟩
  · rw [if_neg (by omega)] at k0; exact k0
  · rw [if_neg (by omega)] at k0; exact k0
  · have ec := A.1.cell (d := x2) (by omega)
    rw [if_neg (fun z => z.2.2 (ec.trans c3))] at k0; exact k0
  · have ec := A.1.cell (d := x2) (by omega)
    have c' : 0 ≤ x2 ∧ x2 < r 1 := by omega
    have sea : r (15 + x2) ≠ -1 := fun z => c3 (ec.symm.trans z)
    rw [if_pos ⟨by omega, c', sea⟩] at k0
    exact w_X2_shareOf (fun _ _ => lp_shX1 A (A.shK (by omega) c' sea) ⟨_, rfl, k0⟩ (r 1).toNat 0 0 (by decide) (by omega) (by rw [Int.zero_add]; rfl) (by decide))
  · rw [if_neg (by omega)] at k0; exact k0
/-! the reference gives what is left one by one -/
theorem sumZ_up1 {f g : Int → Int} {x : Int} : ∀ (n : Nat) (i : Int), (∀ j, i ≤ j → j < i + n → j ≠ x → g j = f j) → i ≤ x → x < i + n → g x = f x + 1 → sumZ g n i = sumZ f n i + 1
  | 0, _, _, h1, h2, _ => by omega
  | n + 1, i, h, h1, h2, h3 => by
    rw [sumZ_s, sumZ_s]
    by_cases e : x = i
    · rw [sumZ_congr n (i + 1) (fun j a b => h j (by omega) (by omega) (by omega))]
      rw [e] at h3
      omega
    · rw [sumZ_up1 n (i + 1) (fun j a b c => h j (by omega) (by omega) c) (by omega) (by omega) h3, h i (by omega) (by omega) (fun z => e z.symm)]
      omega
theorem lp_shM4 {d b : Nat} {Q : Option AV → AH → Prop} {h : AH} {x l : Int} (hn : 1 ≤ gi h 2 1 ∧ gi h 2 1 ≤ 8) (k : ∀ its, 0 ≤ its → its < gi h 2 1 → (∀ e, 0 ≤ e → e < gi h 2 1 → gi h 27 e < gi h 27 its ∨ (gi h 27 e = gi h 27 its ∧ its ≤ e)) → R32 ((gi h 26 its) + 1) ∧ R32 (l + (-1)) ∧ Lp_X8_share_169 d b Q x (l + (-1)) (si (si h 26 its ((gi h 26 its) + 1)) 27 its (-1))) : ∀ (n : Nat) (i its : Int), 1 ≤ i → i + n = gi h 2 1 → 0 ≤ its ∧ its < i → (∀ e, 0 ≤ e → e < i → gi h 27 e < gi h 27 its ∨ (gi h 27 e = gi h 27 its ∧ its ≤ e)) → Lp_X8_share_180 d b Q x l its i h
  | 0, i, its, i0, e, hi, hm => by
    obtain ⟨k1, k2, k3⟩ := k its hi.1 (by omega) (fun e e0 e1 => hm e e0 (by omega))
    refine l_X8_share_180 ⟨fun _ => ⟨by omega, k1, by omega, fun h1 e1 => ⟨by omega, fun h2 e2 => ⟨k2, ?_⟩⟩⟩, fun c => absurd (by omega) c⟩
    subst e2
    subst e1
    exact k3
  | n + 1, i, its, i0, e, hi, hm => by
    refine l_X8_share_180 ⟨fun c => by omega, fun _ => ⟨by omega, by omega, fun c => ⟨by omega, ?_⟩, fun c => ⟨by omega, ?_⟩⟩⟩
    · refine lp_shM4 hn k n (i + 1) its (by omega) (by omega) (by omega) (fun e e0 e1 => ?_)
      by_cases z : e = i
      · subst z
        omega
      · exact hm e e0 (by omega)
    · refine lp_shM4 hn k n (i + 1) i (by omega) (by omega) (by omega) (fun e e0 e1 => ?_)
      by_cases z : e = i
      · subst z
        omega
      · have := hm e e0 (by omega)
        omega
theorem lp_shM3 {d b : Nat} {Q : Option AV → AH → Prop} {h0 : AH} {r : Int → Int} {wh x : Int} (H : ShK r wh x) (k : ∀ h', KM h0 h' → Q (some (vI (shQ r wh x + (if shN r wh x < shL r wh then 1 else 0)))) h') : ∀ (m : Nat) (h : AH), gi h 2 = r → KM h0 h → (∀ e, 0 ≤ e → e < r 1 → (gi h 27 e = -1 ∧ gi h 26 e = shQ r wh e + 1) ∨ (gi h 27 e = shR r wh e ∧ gi h 26 e = shQ r wh e)) → (∀ d e, 0 ≤ d → d < r 1 → 0 ≤ e → e < r 1 → gi h 27 d = -1 → gi h 27 e ≠ -1 → shB r wh e d) → sumZ (fun e => b2i (gi h 27 e = -1)) (r 1).toNat 0 + m = shL r wh → Lp_X8_share_169 d b Q x m h
  | 0, h, er, K, hS, hO, hC => by
    have hn := H.1
    have hx := H.2.2.1
    refine l_X8_share_169 ⟨fun _ => ⟨by omega, ?_⟩, fun c => absurd (by omega) c⟩
    have f := H.fin (t := fun e => b2i (gi h 27 e = -1)) (fun d _ _ => b2i_01 _) (by omega) (fun d e d0 d1 e0 e1 t1 t2 => hO d e d0 d1 e0 e1 (Decidable.byContradiction fun z => by rw [b2i_f z] at t1; cases t1) (b2i_0.mp t2))
    have k0 := k h K
    rw [← f] at k0
    refine qi k0 ?_
    rcases hS x hx.1 hx.2.1 with ⟨s1, s2⟩ | ⟨s1, s2⟩
    · rw [s2, b2i_t s1]
    · have := (H.qr hx.1 hx.2.1).2.2.1
      rw [s2, b2i_f (by omega), Int.add_zero]
  | m + 1, h, er, K, hS, hO, hC => by
    have hn := H.1
    have hx := H.2.2.1
    have hl := H.l
    refine l_X8_share_169 ⟨fun c => by omega, fun _ => ?_⟩
    have e1 : gi h 2 1 = r 1 := by rw [er]
    refine lp_shM4 (by omega) (fun its i0 i1 hm => ?_) (gi h 2 1 - 1).toNat 1 0 (by decide) (by omega) (by decide) (fun e e0 e1 => Or.inr ⟨by rw [show e = 0 by omega], by omega⟩)
    rw [e1] at i1 hm
    have un : gi h 27 its ≠ -1 := fun z => by
      have all : sumZ (fun e => b2i (gi h 27 e = -1)) (r 1).toNat 0 = sumZ (fun _ => 1) (r 1).toNat 0 := sumZ_congr _ _ (fun j j0 j1 => b2i_t (by
        have a1 := hm j j0 (by omega)
        have a2 := hS j j0 (by omega)
        have a3 := (H.qr (d := j) j0 (by omega)).2.2.1
        omega))
      rw [sumZ_one] at all
      omega
    have us := (hS its i0 i1).resolve_left (fun z => un z.1)
    have qi' := H.qr (d := its) i0 i1
    have hs0 := (sumZ_le (f := fun e => b2i (gi h 27 e = -1)) (m := 1) (r 1).toNat 0 (fun j _ _ => b2i_le _)).1
    refine ⟨by omega, by omega, ?_⟩
    have g26 : ∀ e, gi (si (si h 26 its ((gi h 26 its) + 1)) 27 its (-1)) 26 e = if e = its then shQ r wh its + 1 else gi h 26 e := fun e => by
      rw [gi_o (by decide), gi_si, us.2]
      simp only [true_and]
    have g27 : ∀ e, gi (si (si h 26 its ((gi h 26 its) + 1)) 27 its (-1)) 27 e = if e = its then -1 else gi h 27 e := fun e => by
      rw [gi_si, gi_o (show (27 : Nat) ≠ 26 by decide)]
      simp only [true_and]
    rw [show ((m + 1 : Nat) : Int) + (-1) = m by omega]
    refine lp_shM3 H k m _ ?_ ((K.si (by unfold coreM; omega)).si (by unfold coreM; omega)) (fun e e0 e1 => ?_) (fun d e d0 d1 e0 e1 t1 t2 => ?_) ?_
    · rw [gi_o (by decide), gi_o (by decide)]
      exact er
    · rw [g26, g27]
      by_cases z : e = its
      · rw [if_pos z, if_pos z, z]
        exact Or.inl ⟨rfl, rfl⟩
      · rw [if_neg z, if_neg z]
        exact hS e e0 e1
    · rw [g27] at t1 t2
      have ne : e ≠ its := fun z => t2 (if_pos z)
      rw [if_neg ne] at t2
      have se := (hS e e0 e1).resolve_left (fun z => t2 z.1)
      by_cases z : d = its
      · have a1 := hm e e0 e1
        rw [z]
        omega
      · rw [if_neg z] at t1
        exact hO d e d0 d1 e0 e1 t1 t2
    · have := sumZ_up1 (f := fun e => b2i (gi h 27 e = -1)) (g := fun e => b2i (gi (si (si h 26 its ((gi h 26 its) + 1)) 27 its (-1)) 27 e = -1)) (x := its) (r 1).toNat 0 (fun j j0 j1 jn => by
        rw [g27, if_neg jn]) i0 (by omega) (by
        rw [g27, if_pos rfl, b2i_t rfl, b2i_f un]
        rfl)
      rw [this]
      omega
theorem lp_shM2 {d b : Nat} {Q : Option AV → AH → Prop} {h0 : AH} {r : Int → Int} {wh x : Int} (H : ShK r wh x) (k : ∀ h', KM h0 h' → Q (some (vI (shQ r wh x + (if shN r wh x < shL r wh then 1 else 0)))) h') : ∀ (n : Nat) (i l : Int) (h : AH), 0 ≤ i → i + n = r 1 → gi h 2 = r → KM h0 h → (∀ e, 0 ≤ e → e < i → gi h 26 e = shQ r wh e ∧ gi h 27 e = shR r wh e) → l - sumZ (shQ r wh) n i = shL r wh → l ≤ wh ∧ wh - 899991 * i ≤ l → Lp_X8_share_89 d b Q wh x (shA r) l i h
  | 0, i, l, h, i0, e, er, K, hS, hl, hb => by
    have hn := H.1
    have e1 : gi h 2 1 = r 1 := by rw [er]
    have ll := H.l
    rw [sumZ_0, Int.sub_zero] at hl
    refine l_X8_share_89 ⟨fun _ => ?_, fun c => absurd (by omega) c⟩
    have z0 : sumZ (fun e => b2i (gi h 27 e = -1)) (r 1).toNat 0 = 0 := by
      have h3 := sumZ_le (f := fun _ => 0) (m := 0) (r 1).toNat 0 (fun j j0 j1 => by decide)
      have : sumZ (fun e => b2i (gi h 27 e = -1)) (r 1).toNat 0 = sumZ (fun _ => 0) (r 1).toNat 0 := sumZ_congr _ _ (fun j j0 j1 => b2i_f (by
        have a := hS j j0 (by omega)
        have a3 := (H.qr (d := j) j0 (by omega)).2.2.1
        omega))
      omega
    have un : ∀ d, 0 ≤ d → d < r 1 → gi h 27 d ≠ -1 := fun d d0 d1 => by
      have a := hS d d0 (by omega)
      have a3 := (H.qr (d := d) d0 (by omega)).2.2.1
      omega
    have := lp_shM3 (d := d) (b := b) (Q := Q) H k l.toNat h er K (fun e e0 e1 => Or.inr ⟨(hS e e0 (by omega)).2, (hS e e0 (by omega)).1⟩) (fun d e d0 d1 e0 e1 t1 t2 => absurd t1 (un d d0 d1)) (by omega)
    rwa [show ((l.toNat : Nat) : Int) = l by omega] at this
  | n + 1, i, l, h, i0, e, er, K, hS, hl, hb => by
    have hn := H.1
    have hw := H.2.1
    have sa := H.a
    have e1 : gi h 2 1 = r 1 := by rw [er]
    have qi := H.qr (d := i) i0 (by omega)
    have pi := H.p (d := i) i0 (by omega)
    have wi := H.w (d := i) i0 (by omega)
    rw [sumZ_s] at hl
    have nx : Lp_X8_share_89 d b Q wh x (shA r) (l - shQ r wh i) (i + 1) (si (si h 26 i (shQ r wh i)) 27 i (shR r wh i)) := by
      refine lp_shM2 H k n (i + 1) _ _ (by omega) (by omega) ?_ ((K.si (by unfold coreM; omega)).si (by unfold coreM; omega)) (fun e e0 e1 => ?_) (by omega) (by omega)
      · rw [gi_o (by decide), gi_o (by decide)]
        exact er
      · rw [gi_o (show (26 : Nat) ≠ 27 by decide), gi_si, gi_si, gi_o (show (27 : Nat) ≠ 26 by decide)]
        by_cases z : e = i
        · rw [if_pos ⟨rfl, z⟩, if_pos ⟨rfl, z⟩, z]
          exact ⟨rfl, rfl⟩
        · rw [if_neg (fun w => z w.2), if_neg (fun w => z w.2)]
          exact hS e e0 (by omega)
    refine l_X8_share_89 ⟨fun c => by omega, fun _ => ⟨by omega, fun c => ?_, fun c => ?_⟩⟩
    · rw [er] at c ⊢
      rw [← wi.2.2.2 c, tdiv_e pi.1, tmod_e pi.1]
      rw [show wh * shW r i / shA r = shQ r wh i from rfl, show wh * shW r i % shA r = shR r wh i from rfl]
      refine ⟨by omega, by omega, by omega, by omega, by omega, by omega, fun h3 e3 => ⟨by omega, by omega, by omega, by omega, fun h4 e4 => ⟨by omega, by omega, by omega, ?_⟩⟩⟩
      subst e4
      subst e3
      exact nx
    · rw [er] at c
      have z : shW r i = 0 := wi.2.2.1 (Decidable.not_not.mp c)
      have zq : shQ r wh i = 0 := by unfold shQ; rw [z, Int.mul_zero, Int.zero_ediv]
      have zr : shR r wh i = 0 := by unfold shR; rw [z, Int.mul_zero, Int.zero_emod]
      rw [zq, zr] at nx
      rw [Int.mul_zero, Int.zero_tdiv, Int.zero_tmod]
      refine ⟨by decide, by omega, by decide, by omega, fun h1 e1 => ⟨by decide, by omega, by decide, by omega, fun h2 e2 => ⟨by omega, by omega, by omega, ?_⟩⟩⟩
      subst e2
      subst e1
      exact nx
theorem lp_shM1 {d b : Nat} {Q : Option AV → AH → Prop} {h : AH} {r : Int → Int} {wh x : Int} (H : ShK r wh x) (er : gi h 2 = r) (k : ∀ h', KM h h' → Q (some (vI (shQ r wh x + (if shN r wh x < shL r wh then 1 else 0)))) h') : ∀ (n : Nat) (i s : Int), 0 ≤ i → i + n = r 1 → s + sumZ (shW r) n i = shA r → 0 ≤ s ∧ s ≤ 9 * i → Lp_X8_share_40 d b Q wh x s i h
  | 0, i, s, i0, e, hs, hb => by
    have hn := H.1
    have e1 : gi h 2 1 = r 1 := by rw [er]
    rw [sumZ_0, Int.add_zero] at hs
    subst hs
    refine l_X8_share_40 ⟨fun _ => ?_, fun c => absurd (by omega) c⟩
    exact lp_shM2 H k (r 1).toNat 0 wh h (by decide) (by omega) er KM.rfl' (fun e e0 e1 => by omega) rfl (by omega)
  | n + 1, i, s, i0, e, hs, hb => by
    have hn := H.1
    have e1 : gi h 2 1 = r 1 := by rw [er]
    have wi := H.w (d := i) i0 (by omega)
    rw [sumZ_s] at hs
    refine l_X8_share_40 ⟨fun c => by omega, fun _ => ⟨by omega, fun c => ?_, fun c => ?_⟩⟩
    · rw [er] at c ⊢
      rw [← wi.2.2.2 c]
      exact ⟨by omega, by omega, by omega, by omega, lp_shM1 H er k n (i + 1) _ (by omega) (by omega) (by omega) (by omega)⟩
    · rw [er] at c
      have z : shW r i = 0 := wi.2.2.1 (Decidable.not_not.mp c)
      exact ⟨by omega, by omega, lp_shM1 H er k n (i + 1) _ (by omega) (by omega) (by omega) (by omega)⟩
theorem cM_share {d b : Nat} {Q : Option AV → AH → Prop} {h : AH} {x1 x2 : Int} (L : LawK h) (k : ∀ h', KM h h' → Q (some (vI (fShare (gi h 2) x1 x2))) h') : WM GM (d + 2) b mX8_share [vR (some 0), vI x1, vI x2] h Q := by
  have I1 := L.2.1.1
  have k0 := k _ km0
  unfold fShare at k k0
  refine w_X8_share ?_
  intro _ _ h1 e1
  subst e1
  rw [m2]
  refine ⟨fun c => ⟨by omega, fun c1 => ⟨by omega, ?_⟩, fun c1 => ?_⟩, fun c => ?_⟩
  · rw [m2]
    refine ⟨fun c2 => ?_, fun c2 => ?_⟩
    · rw [if_pos ⟨c, c1, c2⟩] at k
      have H : ShK (gi h 2) x1 x2 := ⟨by omega, c, ⟨c1.1, c1.2, c2⟩, fun d d0 d1 => by have := L.2.1.2.1 d d0 d1; omega⟩
      exact lp_shM1 H m2f (fun h' K => k h' (km0.trans K)) (gi h 2 1).toNat 0 0 (by decide) (by omega) (by rw [Int.zero_add]; rfl) (by decide)
    · rw [if_neg (fun z => c2 z.2.2)] at k0; exact k0
  · rw [if_neg (fun z => c1 z.2.1)] at k0; exact k0
  · rw [if_neg (fun z => c z.1)] at k0; exact k0
theorem q_share {n dx dm : Nat} {hX hM : AH} {Q : Option AV → AH → Prop} {x1 x2 : Int} (R : RR n hX hM) (hn : n < 512) (hQ : ∀ rx hX', WM GM (dm + 2) 0 mX8_share [vR (some 0), vI x1, vI x2] hM (fun rm hM' => RQ n rx rm hX' hM') → Q rx hX') : WM GX (dx + 1) 0 mX7_share [vR (some 0), vI x1, vI x2] hX Q :=
  cX_share R.1 (fun _ K => hQ _ _ (cM_share R.s.lawK (fun _ K' => RQ.mk rfl (R.kk hn K K'))))
