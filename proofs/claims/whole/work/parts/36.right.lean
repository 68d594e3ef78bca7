/-! right: swaps, in whatever order, are as many -/
/-- d comes home: whoever led to d leads to where d led -/
def rmv (f : Int → Int) (d : Int) : Int → Int := fun x => if x = d then d else if f x = d then f d else f x
abbrev D8 (x : Int) : Prop := 0 ≤ x ∧ x < 8
def IJ (f : Int → Int) : Prop := ∀ x y, D8 x → D8 y → f x = f y → f x ≠ -1 → x = y
def tot : (Int → Int) → List Int → Int
  | _, [] => 0
  | f, a :: L => b2i (f a ≠ a) + tot (rmv f a) L
theorem tot_c (f : Int → Int) (a : Int) (L : List Int) : tot f (a :: L) = b2i (f a ≠ a) + tot (rmv f a) L := rfl
theorem rmv_self (f : Int → Int) (d : Int) : rmv f d d = d := if_pos rfl
theorem rmv_ne {f : Int → Int} {d x : Int} (h : x ≠ d) : rmv f d x = if f x = d then f d else f x := if_neg h
theorem rmv_congr {f g : Int → Int} {d : Int} (hd : D8 d) (h : ∀ x, D8 x → f x = g x) : ∀ x, D8 x → rmv f d x = rmv g d x := fun x hx => by
  unfold rmv
  rw [h x hx, h d hd]
theorem tot_congr : ∀ (L : List Int) (f g : Int → Int), (∀ x, D8 x → f x = g x) → (∀ a ∈ L, D8 a) → tot f L = tot g L
  | [], _, _, _, _ => rfl
  | a :: L, f, g, h, hL => by
    have ha := hL a List.mem_cons_self
    rw [tot_c, tot_c, h a ha, tot_congr L (rmv f a) (rmv g a) (rmv_congr ha h) (fun b hb => hL b (List.mem_cons_of_mem _ hb))]
theorem IJ.rm {f : Int → Int} (J : IJ f) {d : Int} (hd : D8 d) : IJ (rmv f d) := by
  intro x y hx hy e n
  have j1 := J x y hx hy
  have j2 := J d y hd hy
  have j3 := J x d hx hd
  unfold rmv at e n
  by_cases c1 : x = d
  · by_cases c2 : y = d
    · omega
    · rw [if_pos c1, if_neg c2] at e
      split at e <;> omega
  · by_cases c2 : y = d
    · rw [if_neg c1, if_pos c2] at e
      split at e <;> omega
    · rw [if_neg c1, if_neg c2] at e
      rw [if_neg c1] at n
      split at e
      · rw [if_pos (by assumption)] at n
        split at e <;> omega
      · rw [if_neg (by assumption)] at n
        split at e <;> omega
theorem rmv_comm {f : Int → Int} (J : IJ f) {a d : Int} (ha : D8 a) (hd : D8 d) (n : a ≠ d) : ∀ x, D8 x → rmv (rmv f a) d x = rmv (rmv f d) a x := by
  intro x hx
  have j1 := J x d hx hd
  have j2 := J x a hx ha
  by_cases c1 : x = a
  · subst c1
    rw [rmv_ne n, rmv_self, rmv_self, if_neg n]
  · by_cases c2 : x = d
    · subst c2
      rw [rmv_self, rmv_ne c1, rmv_self, if_neg c1]
    · rw [rmv_ne c2, rmv_ne c1, rmv_ne c1, rmv_ne c2, rmv_ne (fun z => n z.symm), rmv_ne n]
      by_cases e1 : f x = a
      · rw [if_pos e1, if_neg (show ¬ f x = d by omega), if_pos e1]
        by_cases e2 : f a = d
        · rw [if_pos e2, if_pos e2, if_neg]
          intro z
          exact c2 (j1 (by omega) (by omega))
        · rw [if_neg e2, if_neg e2]
      · rw [if_neg e1]
        by_cases e2 : f x = d
        · rw [if_pos e2, if_pos e2]
          by_cases e3 : f d = a
          · rw [if_pos e3, if_pos e3, if_neg]
            intro z
            exact c1 (j2 (by omega) (by omega))
          · rw [if_neg e3, if_neg e3]
        · rw [if_neg e2, if_neg e2, if_neg e1]
theorem s_comm {f : Int → Int} (J : IJ f) {a d : Int} (ha : D8 a) (hd : D8 d) (n : a ≠ d) : b2i (f a ≠ a) + b2i (rmv f a d ≠ d) = b2i (f d ≠ d) + b2i (rmv f d a ≠ a) := by
  have j1 := J a d ha hd
  rw [rmv_ne (fun z => n z.symm), rmv_ne n]
  unfold b2i
  by_cases e1 : f d = a
  · rw [if_pos e1]
    by_cases e2 : f a = d
    · rw [if_pos e2]
      rw [if_pos (by omega), if_neg (by omega), if_pos (by omega), if_neg (by omega)]
    · rw [if_neg e2]
      rw [if_pos (by omega), if_pos (by omega), if_pos (by omega)]
  · rw [if_neg e1]
    by_cases e2 : f a = d
    · rw [if_pos e2]
      by_cases e3 : f d = d
      · omega
      · rw [if_pos (by omega), if_pos (by omega), if_pos (by omega)]
    · rw [if_neg e2]
      omega
theorem rmv_idem {f : Int → Int} (J : IJ f) {d : Int} (hd : D8 d) : ∀ x, D8 x → rmv (rmv f d) d x = rmv f d x := by
  intro x hx
  have j1 := J x d hx hd
  by_cases c : x = d
  · subst c
    rw [rmv_self, rmv_self]
  · rw [rmv_ne c, rmv_self]
    rw [rmv_ne c]
    by_cases e : f x = d
    · rw [if_pos e]
      split
      · omega
      · rfl
    · rw [if_neg e, if_neg e]
theorem tot_pull : ∀ (L : List Int) (f : Int → Int) (d : Int), IJ f → D8 d → (∀ a ∈ L, D8 a) → d ∈ L → tot f L = b2i (f d ≠ d) + tot (rmv f d) L
  | [], _, _, _, _, _, hm => by cases hm
  | a :: L, f, d, J, hd, hL, hm => by
    have ha := hL a List.mem_cons_self
    have hL' : ∀ b ∈ L, D8 b := fun b hb => hL b (List.mem_cons_of_mem _ hb)
    rw [tot_c, tot_c]
    by_cases e : a = d
    · subst e
      rw [rmv_self, b2i_f (p := a ≠ a) (fun z => z rfl), Int.zero_add, tot_congr L (rmv (rmv f a) a) (rmv f a) (rmv_idem J ha) hL']
    · have hm' : d ∈ L := by
        rcases List.mem_cons.mp hm with z | z
        · exact absurd z.symm e
        · exact z
      rw [tot_pull L (rmv f a) d (J.rm ha) hd hL' hm', tot_congr L (rmv (rmv f a) d) (rmv (rmv f d) a) (rmv_comm J ha hd e) hL']
      have := s_comm J ha hd e
      omega
theorem tot_le : ∀ (L : List Int) (f : Int → Int), 0 ≤ tot f L ∧ tot f L ≤ L.length
  | [], _ => ⟨Int.le_refl _, Int.le_refl _⟩
  | a :: L, f => by
    have h1 := tot_le L (rmv f a)
    have h2 := b2i_le (f a ≠ a)
    rw [tot_c, List.length_cons]
    omega
theorem tot_fix : ∀ (L : List Int) (f : Int → Int), (∀ x, D8 x → f x = x) → (∀ a ∈ L, D8 a) → tot f L = 0
  | [], _, _, _ => rfl
  | a :: L, f, h, hL => by
    have ha := hL a List.mem_cons_self
    have hL' : ∀ b ∈ L, D8 b := fun b hb => hL b (List.mem_cons_of_mem _ hb)
    rw [tot_c, h a ha, b2i_f (p := a ≠ a) (fun z => z rfl), tot_fix L (rmv f a) (fun x hx => ?_) hL']
    · rfl
    · by_cases c : x = a
      · rw [c, rmv_self]
      · rw [rmv_ne c, h x hx, if_neg c]
def L8 : List Int := [7, 6, 5, 4, 3, 2, 1, 0]
theorem L8_D : ∀ a ∈ L8, D8 a := by decide
theorem L8_mem {d : Int} (h : D8 d) : d ∈ L8 := by
  have : d = 0 ∨ d = 1 ∨ d = 2 ∨ d = 3 ∨ d = 4 ∨ d = 5 ∨ d = 6 ∨ d = 7 := by omega
  rcases this with e | e | e | e | e | e | e | e <;> subst e <;> decide
theorem tot_0 {f : Int → Int} (J : IJ f) (h : tot f L8 = 0) : ∀ d, D8 d → f d = d := fun d hd => by
  have e := tot_pull L8 f d J hd L8_D (L8_mem hd)
  have h1 := (tot_le L8 (rmv f d)).1
  have h2 := b2i_le (f d ≠ d)
  have e0 : b2i (f d ≠ d) = 0 := by omega
  exact Decidable.not_not.mp (b2i_0.mp e0)
/-! the class's swaps -/
/-- a door that hangs -/
abbrev hgR (r : Int → Int) (d : Int) : Prop := (0 ≤ d ∧ d < r 1) ∧ r (7 + d) ≠ -1
def dup (r : Int → Int) : Prop := ∃ d e, 0 ≤ d ∧ d < e ∧ e < r 1 ∧ r (7 + d) ≠ -1 ∧ r (7 + e) ≠ -1 ∧ r (88 + d) = r (88 + e)
def fC (r c : Int → Int) : Int → Int := fun d => if hgR r d then c (r (88 + d)) else d
theorem fC_t {r c : Int → Int} {d : Int} (h : hgR r d) : fC r c d = c (r (88 + d)) := if_pos h
theorem fC_f {r c : Int → Int} {d : Int} (h : ¬ hgR r d) : fC r c d = d := if_neg h
/-- who hangs where: c -/
def CI (r c : Int → Int) : Prop := (∀ h, D8 h → c h = -1 ∨ hgR r (c h)) ∧ (∀ h g, D8 h → D8 g → c h = c g → c h ≠ -1 → h = g) ∧ ∀ d, hgR r d → ∃ h, D8 h ∧ c h = d
theorem nodup_eq {r : Int → Int} (N : ¬ dup r) {d e : Int} (h1 : hgR r d) (h2 : hgR r e) (h : r (88 + d) = r (88 + e)) : d = e := by
  by_cases a : d < e
  · exact absurd ⟨d, e, h1.1.1, a, h2.1.2, h1.2, h2.2, h⟩ N
  · by_cases b : e < d
    · exact absurd ⟨e, d, h2.1.1, b, h1.1.2, h2.2, h1.2, h.symm⟩ N
    · omega
theorem CI.ij {r c : Int → Int} (C : CI r c) (N : ¬ dup r) (hm : ∀ d, hgR r d → D8 (r (88 + d))) : IJ (fC r c) := by
  intro x y hx hy e n
  unfold fC at e n
  by_cases c1 : hgR r x
  · rw [if_pos c1] at e n
    by_cases c2 : hgR r y
    · rw [if_pos c2] at e
      exact nodup_eq N c1 c2 (C.2.1 _ _ (hm x c1) (hm y c2) e n)
    · rw [if_neg c2] at e
      have := (C.1 _ (hm x c1)).resolve_left n
      rw [e] at this
      exact absurd this c2
  · rw [if_neg c1] at e
    by_cases c2 : hgR r y
    · rw [if_pos c2] at e
      rcases C.1 _ (hm y c2) with z | z
      · omega
      · rw [← e] at z
        exact absurd z c1
    · rw [if_neg c2] at e
      exact e
/-- a swap -/
theorem CI.swap {r c : Int → Int} (C : CI r c) (N : ¬ dup r) (hm : ∀ d, hgR r d → D8 (r (88 + d))) {g : Int} (hg : D8 g) (h1 : c g ≠ -1) (h2 : r (88 + c g) ≠ g) : CI r (up1 (up1 c (r (88 + c g)) (c g)) g (c (r (88 + c g)))) ∧ (∀ x, D8 x → fC r (up1 (up1 c (r (88 + c g)) (c g)) g (c (r (88 + c g)))) x = rmv (fC r c) (c g) x) ∧ fC r c (c g) ≠ c g := by
  have hd := (C.1 g hg).resolve_left h1
  have hh := hm _ hd
  have up : ∀ x, up1 (up1 c (r (88 + c g)) (c g)) g (c (r (88 + c g))) x = if x = g then c (r (88 + c g)) else if x = r (88 + c g) then c g else c x := fun x => rfl
  refine ⟨⟨fun h hh' => ?_, fun h k hh' hk e n => ?_, fun d hgd => ?_⟩, fun x hx => ?_, ?_⟩
  · rw [up]
    by_cases z1 : h = g
    · rw [if_pos z1]
      exact C.1 _ hh
    · rw [if_neg z1]
      by_cases z2 : h = r (88 + c g)
      · rw [if_pos z2]
        exact Or.inr hd
      · rw [if_neg z2]
        exact C.1 h hh'
  · have i1 := C.2.1 h k hh' hk
    have i2 := C.2.1 h g hh' hg
    have i3 := C.2.1 g k hg hk
    have i4 := C.2.1 h (r (88 + c g)) hh' hh
    have i5 := C.2.1 (r (88 + c g)) k hh hk
    have i6 := C.2.1 (r (88 + c g)) g hh hg
    rw [up, up] at e
    rw [up] at n
    generalize r (88 + c g) = m at *
    generalize c m = cm at *
    generalize c g = cg at *
    generalize c h = ch at *
    generalize c k = ck at *
    clear up C
    by_cases z1 : h = g
    · rw [if_pos z1] at e n
      by_cases z2 : k = g
      · omega
      · rw [if_neg z2] at e
        by_cases z3 : k = m
        · rw [if_pos z3] at e
          omega
        · rw [if_neg z3] at e
          omega
    · rw [if_neg z1] at e n
      by_cases z4 : h = m
      · rw [if_pos z4] at e n
        by_cases z2 : k = g
        · rw [if_pos z2] at e
          omega
        · rw [if_neg z2] at e
          by_cases z3 : k = m
          · omega
          · rw [if_neg z3] at e
            omega
      · rw [if_neg z4] at e n
        by_cases z2 : k = g
        · rw [if_pos z2] at e
          omega
        · rw [if_neg z2] at e
          by_cases z3 : k = m
          · rw [if_pos z3] at e
            omega
          · rw [if_neg z3] at e
            omega
  · obtain ⟨h, a1, a2⟩ := C.2.2 d hgd
    by_cases z1 : h = g
    · refine ⟨r (88 + c g), hh, ?_⟩
      rw [up, if_neg h2, if_pos rfl, ← z1]
      exact a2
    · by_cases z2 : h = r (88 + c g)
      · refine ⟨g, hg, ?_⟩
        rw [up, if_pos rfl, ← z2]
        exact a2
      · refine ⟨h, a1, ?_⟩
        rw [up, if_neg z1, if_neg z2]
        exact a2
  · by_cases z1 : x = c g
    · rw [z1, rmv_self, fC_t hd, up, if_neg h2, if_pos rfl]
    · rw [rmv_ne z1]
      by_cases c1 : hgR r x
      · have hx' := hm x c1
        rw [fC_t c1, fC_t c1, fC_t hd, up]
        by_cases z2 : r (88 + x) = g
        · rw [if_pos z2, if_pos (by rw [z2])]
        · rw [if_neg z2, if_neg (fun z => z1 (nodup_eq N c1 hd z)), if_neg]
          intro z
          exact z2 (C.2.1 _ _ hx' hg z (by rw [z]; exact h1))
      · rw [fC_f c1, fC_f c1, if_neg z1]
  · unfold fC
    rw [if_pos hd]
    intro z
    exact h2 (C.2.1 _ _ hh hg z (by rw [z]; exact h1))
theorem CI.fix {r c : Int → Int} (C : CI r c) (h : ∀ g, D8 g → c g = -1 ∨ r (88 + c g) = g) : ∀ x, D8 x → fC r c x = x := fun x hx => by
  unfold fC
  by_cases c1 : hgR r x
  · rw [if_pos c1]
    obtain ⟨g, a1, a2⟩ := C.2.2 x c1
    rcases h g a1 with z | z
    · have := c1.1.1
      omega
    · rw [a2] at z
      rw [z, a2]
  · rw [if_neg c1]
section RX
variable {d b : Nat} {Q : Option AV → AH → Prop} {h0 : AH} {r : Int → Int}
theorem lp_rX2 (N : ¬ dup r) (hm : ∀ d, hgR r d → D8 (r (88 + d))) (h8 : r 1 ≤ 8) {T0 g : Int} (hg : D8 g) (hT : 0 ≤ T0 ∧ T0 ≤ 8)
    (k : ∀ s h, KX h0 h → (∀ d, hgR r d → gi h 5 d = r (88 + d)) → CI r (gi h 49) → s + tot (fC r (gi h 49)) L8 = T0 → 0 ≤ s → (∀ g', 0 ≤ g' → g' < g + 1 → gi h 49 g' = -1 ∨ r (88 + gi h 49 g') = g') → Lp_X2_fewestSwaps_93 d b Q s (g + 1) h) :
    ∀ (n : Nat) (t s : Int) (h : AH), 0 ≤ t → t + n = 8 → KX h0 h → (∀ d, hgR r d → gi h 5 d = r (88 + d)) → CI r (gi h 49) → s + tot (fC r (gi h 49)) L8 = T0 → 0 ≤ s → tot (fC r (gi h 49)) L8 ≤ n → (∀ g', 0 ≤ g' → g' < g → gi h 49 g' = -1 ∨ r (88 + gi h 49 g') = g') → Lp_X2_fewestSwaps_103 d b Q s g t h := by
  intro n
  induction n with
  | zero =>
    intro t s h t0 e K h5 C hs s0 ht hB
    have fx := tot_0 (C.ij N hm) (by have := (tot_le L8 (fC r (gi h 49))).1; omega)
    refine l_X2_fewestSwaps_103 ⟨fun _ => ⟨by omega, k s h K h5 C hs s0 (fun g' a1 a2 => ?_)⟩, fun z => absurd (by omega) z⟩
    by_cases z : g' < g
    · exact hB g' a1 z
    · have eg : g' = g := by omega
      rw [eg]
      rcases C.1 g hg with z1 | z1
      · exact Or.inl z1
      · refine Or.inr ?_
        have f1 := fx (gi h 49 g) ⟨z1.1.1, by have := z1.1.2; omega⟩
        unfold fC at f1
        rw [if_pos z1] at f1
        have := z1.1.1
        exact C.2.1 _ _ (hm _ z1) hg f1 (by omega)
  | succ n ih =>
    intro t s h t0 e K h5 C hs s0 ht hB
    have go : (gi h 49 g = -1 ∨ r (88 + gi h 49 g) = g) → Lp_X2_fewestSwaps_93 d b Q s (g + 1) h := fun w => k s h K h5 C hs s0 (fun g' a1 a2 => by
      by_cases z : g' < g
      · exact hB g' a1 z
      · have eg : g' = g := by omega
        rw [eg]
        exact w)
    refine l_X2_fewestSwaps_103 ⟨fun z => by omega, fun _ => ⟨hg, fun z => ⟨by omega, go (Or.inl z)⟩, fun z => ?_⟩⟩
    have hd := (C.1 g hg).resolve_left z
    have b8 : 0 ≤ gi h 49 g ∧ gi h 49 g < 8 := ⟨hd.1.1, by have := hd.1.2; omega⟩
    have hh := hm _ hd
    rw [h5 _ hd]
    refine ⟨hg, b8, fun w => ⟨by omega, go (Or.inr w)⟩, fun w => ⟨hg, b8, hh, hg, hh, fun h1 e1 => ⟨hg, fun h2 e2 => ?_⟩⟩⟩
    obtain ⟨C', F, nf⟩ := C.swap N hm hg z w
    have e49 : gi h2 49 = up1 (up1 (gi h 49) (r (88 + gi h 49 g)) (gi h 49 g)) g (gi h 49 (r (88 + gi h 49 g))) := by
      rw [e2, e1, gi_self, gi_self]
    have pl := tot_pull L8 (fC r (gi h 49)) (gi h 49 g) (C.ij N hm) b8 L8_D (L8_mem b8)
    rw [b2i_t nf] at pl
    have tt : tot (fC r (gi h2 49)) L8 = tot (rmv (fC r (gi h 49)) (gi h 49 g)) L8 := by
      rw [e49]
      exact tot_congr L8 _ _ F L8_D
    have tl := (tot_le L8 (fC r (gi h2 49))).1
    refine ⟨by omega, by omega, ?_⟩
    refine ih (t + 1) (s + 1) h2 (by omega) (by omega) ?_ (fun d hd' => ?_) ?_ (by omega) (by omega) (by omega) (fun g' a1 a2 => ?_)
    · rw [e2, e1]
      exact (K.si (by unfold coreX; omega)).si (by unfold coreX; omega)
    · rw [e2, e1, gi_o (by decide), gi_o (by decide)]
      exact h5 d hd'
    · rw [e49]
      exact C'
    · rw [e49]
      unfold up1
      rw [if_neg (by omega)]
      by_cases z2 : g' = r (88 + gi h 49 g)
      · rw [if_pos z2]
        exact Or.inr z2.symm
      · rw [if_neg z2]
        exact hB g' a1 a2
theorem lp_rX1 (N : ¬ dup r) (hm : ∀ d, hgR r d → D8 (r (88 + d))) (h8 : r 1 ≤ 8) {T0 : Int} (hT : 0 ≤ T0 ∧ T0 ≤ 8) (k : ∀ h, KX h0 h → Q (some (vI T0)) h) :
    ∀ (n : Nat) (g s : Int) (h : AH), 0 ≤ g → g + n = 8 → KX h0 h → (∀ d, hgR r d → gi h 5 d = r (88 + d)) → CI r (gi h 49) → s + tot (fC r (gi h 49)) L8 = T0 → 0 ≤ s → (∀ g', 0 ≤ g' → g' < g → gi h 49 g' = -1 ∨ r (88 + gi h 49 g') = g') → Lp_X2_fewestSwaps_93 d b Q s g h
  | 0, g, s, h, g0, e, K, h5, C, hs, s0, hB => by
    refine l_X2_fewestSwaps_93 ⟨fun _ => ?_, fun z => absurd (by omega) z⟩
    have := tot_fix L8 _ (C.fix (fun g hg => hB g hg.1 (by omega))) L8_D
    rw [show s = T0 by omega]
    exact k h K
  | n + 1, g, s, h, g0, e, K, h5, C, hs, s0, hB => by
    refine l_X2_fewestSwaps_93 ⟨fun z => by omega, fun _ => ?_⟩
    refine lp_rX2 N hm h8 (g := g) ⟨g0, by omega⟩ hT (fun s' h' K' h5' C' hs' s0' hB' => lp_rX1 N hm h8 hT k n (g + 1) s' h' (by omega) (by omega) K' h5' C' hs' s0' hB') 8 0 s h (by decide) (by decide) K h5 C hs s0 ?_ hB
    exact (tot_le L8 _).2
end RX
