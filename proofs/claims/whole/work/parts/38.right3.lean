/-! the reference's ring leaders -/
theorem hg_next {r : Int → Int} (V : InvR r) {x : Int} (hx : hgR r x) : dOf r (r (88 + x)) = -1 ∨ hgR r (dOf r (r (88 + x))) := by
  have v1 := V.1
  rcases dOf_spec (r := r) (x := r (88 + x)) (by omega) with ⟨s1, s2⟩ | ⟨s1, s2, s3⟩
  · exact Or.inl s1
  · refine Or.inr ⟨⟨s1, s2⟩, ?_⟩
    have := (V.hm hx).1
    omega
theorem lp_lead0 {d b : Nat} {Q : Option AV → AH → Prop} {h : AH} (V : InvR (gi h 2)) {x : Int} (k : Q (some (vI 0)) h) : ∀ (n : Nat) (t at_ : Int), 0 ≤ t → t + n = 8 → hgR (gi h 2) at_ → Lp_X8_leadsRing_7 d b Q x at_ 0 t h
  | 0, t, at_, t0, e, ha => l_X8_leadsRing_7 ⟨fun _ => k, fun z => absurd (by omega) z⟩
  | n + 1, t, at_, t0, e, ha => by
    have v1 := V.1
    have hm := V.hm ha
    have ha1 := ha.1
    have nx : ¬ dOf (gi h 2) (gi h 2 (88 + at_)) = -1 → Lp_X8_leadsRing_7 d b Q x (dOf (gi h 2) (gi h 2 (88 + at_))) 0 (t + 1) h := fun z => lp_lead0 V k n (t + 1) _ (by omega) (by omega) ((hg_next V ha).resolve_left z)
    refine l_X8_leadsRing_7 ⟨fun z => by omega, fun _ => ⟨by omega, by omega, V, hm.1, fun z => ⟨fun w => ⟨fun _ => k, fun q => absurd rfl q⟩, fun w => k⟩, fun z => ⟨fun w => ⟨fun _ => ⟨fun _ => k, fun q => absurd rfl q⟩, fun q => absurd w q⟩, fun w => ⟨fun _ => ⟨by omega, nx z⟩, fun q => absurd rfl q⟩⟩⟩⟩
theorem lp_lead1 {d b : Nat} {Q : Option AV → AH → Prop} {h : AH} (V : InvR (gi h 2)) {x z : Int} (hx : 0 ≤ x) {kk : Nat} (hk : kk ≤ 7) (e1 : itr (fC (gi h 2) (dOf (gi h 2))) (kk + 1) x = z) (e2 : z ≤ x) (e3 : ∀ j : Nat, 1 ≤ j → j ≤ kk → x < itr (fC (gi h 2) (dOf (gi h 2))) j x)
    (k : Q (some (vI (b2i (z = x)))) h) : ∀ (n j : Nat), j + n = kk → hgR (gi h 2) (itr (fC (gi h 2) (dOf (gi h 2))) j x) → Lp_X8_leadsRing_7 d b Q x (itr (fC (gi h 2) (dOf (gi h 2))) j x) 1 j h
  | n, j, e, ha => by
    have v1 := V.1
    have hm := V.hm ha
    have ha1 := ha.1
    have en : itr (fC (gi h 2) (dOf (gi h 2))) (j + 1) x = dOf (gi h 2) (gi h 2 (88 + itr (fC (gi h 2) (dOf (gi h 2))) j x)) := by
      rw [itr_s, fC_t ha]
    have nx := hg_next V ha
    rw [← en] at nx
    have zf : z ≠ x → Q (some (vI 0)) h := fun w => qb_f k w
    have zt : z = x → Q (some (vI 1)) h := fun w => qb_t k w
    match n, e with
    | 0, e =>
      have ej : j = kk := by omega
      refine l_X8_leadsRing_7 ⟨fun w => by omega, fun _ => ⟨by omega, by omega, V, hm.1, ?_⟩⟩
      rw [← en]
      rw [ej, e1] at nx ⊢
      refine ⟨fun w => ⟨fun q => by omega, fun _ => zf (by omega)⟩, fun w => ⟨fun q => ⟨fun _ => ⟨fun y => by omega, fun _ => zt q⟩, fun y => absurd q y⟩, fun q => ⟨fun y => by omega, fun _ => ⟨fun _ => ⟨by omega, ?_⟩, fun y => by omega⟩⟩⟩⟩
      exact lp_lead0 V (zf q) (7 - kk) _ _ (by omega) (by omega) (nx.resolve_left w)
    | n + 1, e =>
      have gt := e3 (j + 1) (by omega) (by omega)
      refine l_X8_leadsRing_7 ⟨fun w => by omega, fun _ => ⟨by omega, by omega, V, hm.1, ?_⟩⟩
      rw [← en]
      refine ⟨fun w => by omega, fun w => ⟨fun q => by omega, fun q => ⟨fun y => by omega, fun _ => ⟨fun y => by omega, fun _ => ⟨by omega, ?_⟩⟩⟩⟩⟩
      have := lp_lead1 (d := d) (b := b) (Q := Q) V hx hk e1 e2 e3 k n (j + 1) (by omega) (nx.resolve_left w)
      rwa [Int.natCast_succ] at this
/-- what the reference counts of a door -/
def ldR (r : Int → Int) (x : Int) : Int := b2i (FF (fC r (dOf r)) (7 - x).toNat x ≠ x)
section LD
variable {r : Int → Int}
theorem fR_8 (V : InvR r) : ∀ x, D8 x → fC r (dOf r) x < 8 := fun x hx => by
  have v1 := V.1
  by_cases c : hgR r x
  · rw [fC_t c]
    rcases hg_next V c with z | z
    · omega
    · have := z.1.2
      omega
  · rw [fC_f c]
    exact hx.2
theorem ciR (V : InvR r) : CI r (dOf r) := by
  have v1 := V.1
  have sp : ∀ g, (dOf r g = -1 ∧ ∀ d, 0 ≤ d → d < r 1 → r (7 + d) ≠ g) ∨ (0 ≤ dOf r g ∧ dOf r g < r 1 ∧ r (7 + dOf r g) = g) := fun g => dOf_spec (by omega)
  refine ⟨fun g hg => ?_, fun g k hg hk e n => ?_, fun d hd => ?_⟩
  · rcases sp g with z | z
    · exact Or.inl z.1
    · exact Or.inr ⟨⟨z.1, z.2.1⟩, by have := hg.1; omega⟩
  · have a := (sp g).resolve_left (fun z => n z.1)
    have c := (sp k).resolve_left (fun z => n (e.trans z.1))
    rw [← a.2.2, ← c.2.2, e]
  · have := V.2.1 d hd.1.1 hd.1.2
    have h2 := hd.2
    refine ⟨r (7 + d), ⟨by omega, by omega⟩, ?_⟩
    rcases sp (r (7 + d)) with z | z
    · exact absurd rfl (z.2 d hd.1.1 hd.1.2)
    · have d1 := hd.1
      by_cases c1 : d < dOf r (r (7 + d))
      · exact absurd (V.2.2.1 d _ d1.1 c1 z.2.1 z.2.2.symm) h2
      · by_cases c2 : dOf r (r (7 + d)) < d
        · have := V.2.2.1 _ d z.1 c2 d1.2 z.2.2
          omega
        · omega
theorem ldR_fix (V : InvR r) (N : ¬ dup r) {x : Int} (hx : D8 x) (h : fC r (dOf r) x = x) : ldR r x = 0 := by
  have F := (FF_fst ((ciR V).ij N (fun d => V.hm)) (fR_8 V) (7 - x).toNat (by omega)).2 x hx.1 (by have := hx.1; omega)
  obtain ⟨k, a1, a2, a3⟩ := F
  unfold ldR
  refine b2i_f (fun z => z ?_)
  match k, a1, a3 with
  | 0, a1, _ => exact a1.symm.trans h
  | k + 1, _, a3 =>
    have := a3 1 (by omega) (by omega)
    rw [show itr (fC r (dOf r)) 1 x = x from h] at this
    have := hx.2
    have := hx.1
    omega
theorem swapsR_sum (V : InvR r) (N : ¬ dup r) : swapsR r = sumZ (ldR r) (r 1).toNat 0 := by
  have v1 := V.1
  unfold swapsR
  rw [tot_FF]
  have : ∀ (m n : Nat) (i : Int), 0 ≤ i → i + n = r 1 → n + m + i = 8 → sumZ (ldR r) (n + m) i = sumZ (ldR r) n i := by
    intro m n
    induction n with
    | zero =>
      intro i i0 i1 i2
      rw [Nat.zero_add, sumZ_0]
      have : ∀ (m : Nat) (i : Int), 0 ≤ i → r 1 ≤ i → i + m = 8 → sumZ (ldR r) m i = 0 := by
        intro m
        induction m with
        | zero => intro i _ _ _; rfl
        | succ m ih =>
          intro i i0 i1 i2
          rw [sumZ_s, ih (i + 1) (by omega) (by omega) (by omega), ldR_fix V N ⟨i0, by omega⟩ (fC_f (fun z => by have := z.1.2; omega))]
          rfl
      exact this m i i0 (by omega) (by omega)
    | succ n ih =>
      intro i i0 i1 i2
      rw [show n + 1 + m = (n + m) + 1 by omega, sumZ_s, sumZ_s, ih (i + 1) (by omega) (by omega) (by omega)]
  have e := this (8 - (r 1).toNat) (r 1).toNat 0 (by decide) (by omega) (by omega)
  rw [show (r 1).toNat + (8 - (r 1).toNat) = 8 by omega] at e
  exact e
end LD
theorem c_X8_leadsRing {d b : Nat} {Q : Option AV → AH → Prop} {h : AH} (V : InvR (gi h 2)) (N : ¬ dup (gi h 2)) {x : Int} (hx : hgR (gi h 2) x) (k : Q (some (vI (1 - ldR (gi h 2) x))) h) : WM GM (d + 1) b mX8_leadsRing [vR (some 0), vI x] h Q := by
  have v1 := V.1
  have x1 := hx.1
  have J := (ciR V).ij N (fun d => V.hm)
  have F := (FF_fst J (fR_8 V) (7 - x).toNat (by omega)).2 x x1.1 (by omega)
  obtain ⟨kk, a1, a2, a3⟩ := F
  rw [show 7 - (((7 - x).toNat : Nat) : Int) = x by omega] at a2 a3
  have k7 := Fst.short J (fR_8 V) ⟨x1.1, by omega⟩ a3
  refine w_X8_leadsRing (fun _ => ?_)
  have := lp_lead1 (d := d) (b := b) (Q := Q) V x1.1 k7 a1 a2 a3 (qi k ?_) kk 0 (by omega) hx
  · exact this
  · unfold ldR
    by_cases z : FF (fC (gi h 2) (dOf (gi h 2))) (7 - x).toNat x = x
    · rw [b2i_t z, b2i_f (fun w => w z)]
      rfl
    · rw [b2i_f z, b2i_t z]
      rfl
/-- with a pair of one home: whatever it answers -/
theorem lp_leadA {d b : Nat} {Q : Option AV → AH → Prop} {h : AH} (V : InvR (gi h 2)) {x : Int} (k : ∀ v, (v = 0 ∨ v = 1) → Q (some (vI v)) h) : ∀ (n : Nat) (t at_ low : Int), 0 ≤ t → t + n = 8 → hgR (gi h 2) at_ → Lp_X8_leadsRing_7 d b Q x at_ low t h
  | 0, t, at_, low, t0, e, ha => l_X8_leadsRing_7 ⟨fun _ => k 0 (Or.inl rfl), fun z => absurd (by omega) z⟩
  | n + 1, t, at_, low, t0, e, ha => by
    have v1 := V.1
    have hm := V.hm ha
    have ha1 := ha.1
    have k0 := k 0 (Or.inl rfl)
    have k1 := k 1 (Or.inr rfl)
    have nx : ¬ dOf (gi h 2) (gi h 2 (88 + at_)) = -1 → ∀ low', Lp_X8_leadsRing_7 d b Q x (dOf (gi h 2) (gi h 2 (88 + at_))) low' (t + 1) h := fun z low' => lp_leadA V k n (t + 1) _ _ (by omega) (by omega) ((hg_next V ha).resolve_left z)
    exact l_X8_leadsRing_7 ⟨fun z => by omega, fun _ => ⟨by omega, by omega, V, hm.1, fun z => ⟨fun w => ⟨fun _ => k0, fun q => k1⟩, fun w => k0⟩, fun z => ⟨fun w => ⟨fun _ => ⟨fun _ => k0, fun q => k1⟩, fun q => k0⟩, fun w => ⟨fun _ => ⟨by omega, nx z 0⟩, fun q => ⟨fun _ => ⟨by omega, nx z 0⟩, fun _ => ⟨by omega, nx z 1⟩⟩⟩⟩⟩⟩
theorem c_X8_leadAny {d b : Nat} {Q : Option AV → AH → Prop} {h : AH} (V : InvR (gi h 2)) {x : Int} (hx : hgR (gi h 2) x) (k : ∀ v, (v = 0 ∨ v = 1) → Q (some (vI v)) h) : WM GM (d + 1) b mX8_leadsRing [vR (some 0), vI x] h Q :=
  w_X8_leadsRing (fun _ => lp_leadA V k 8 0 x 1 (by decide) (by decide) hx)
theorem lp_rM2 {d b : Nat} {Q : Option AV → AH → Prop} {h : AH} (V : InvR (gi h 2)) {i s : Int} (hi : hgR (gi h 2) i) (k1 : dup (gi h 2) → Q (some (vI (-1))) h) (k2 : (∀ e, hgR (gi h 2) e → e < i → gi h 2 (88 + e) ≠ gi h 2 (88 + i)) → (gi h 2 (7 + i) = gi h 2 (88 + i) → R32 (s + 0) ∧ R32 (i + 1) ∧ Lp_X8_right_9 d b Q (s + 0) (i + 1) h) ∧ (¬(gi h 2 (7 + i) = gi h 2 (88 + i)) → WM GM (d + 1) 0 mX8_leadsRing [vR (some 0), vI i] h (fun r h1 => ∃ u1, r = some (vI u1) ∧ (u1 = 0 → R32 (s + 1) ∧ R32 (i + 1) ∧ Lp_X8_right_9 d b Q (s + 1) (i + 1) h1) ∧ (¬(u1 = 0) → R32 (s + 0) ∧ R32 (i + 1) ∧ Lp_X8_right_9 d b Q (s + 0) (i + 1) h1)))) :
    ∀ (n : Nat) (o : Int), 0 ≤ o → o + n = i → (∀ e, hgR (gi h 2) e → e < o → gi h 2 (88 + e) ≠ gi h 2 (88 + i)) → Lp_X8_right_34 d b Q s i o h
  | 0, o, o0, e, hn => by
    have v1 := V.1
    have i1 := hi.1
    have eo : o = i := by omega
    subst eo
    exact l_X8_right_34 ⟨fun _ => ⟨by omega, by omega, by omega, by omega, k2 hn⟩, fun z => absurd (Int.le_refl _) z⟩
  | n + 1, o, o0, e, hn => by
    have v1 := V.1
    have i1 := hi.1
    refine l_X8_right_34 ⟨fun z => by omega, fun _ => ⟨by omega, by omega, fun z => ⟨by omega, ?_⟩, fun z => ⟨by omega, by omega, by omega, by omega, fun w => ?_, fun w => ⟨by omega, ?_⟩⟩⟩⟩
    · refine lp_rM2 V hi k1 k2 n (o + 1) (by omega) (by omega) (fun e he e1 => ?_)
      by_cases q : e = o
      · rw [q] at he
        exact absurd z he.2
      · exact hn e he (by omega)
    · exact k1 ⟨o, i, o0, by omega, i1.2, z, hi.2, w⟩
    · refine lp_rM2 V hi k1 k2 n (o + 1) (by omega) (by omega) (fun e he e1 => ?_)
      by_cases q : e = o
      · rw [q]
        exact w
      · exact hn e he (by omega)
theorem lp_rM {d b : Nat} {Q : Option AV → AH → Prop} {h : AH} (V : InvR (gi h 2)) (k1 : dup (gi h 2) → Q (some (vI (-1))) h) (k2 : ¬ dup (gi h 2) → Q (some (vI (sumZ (ldR (gi h 2)) (gi h 2 1).toNat 0))) h) :
    ∀ (n : Nat) (i s : Int), 0 ≤ i → i + n = gi h 2 1 → (¬ dup (gi h 2) → s + sumZ (ldR (gi h 2)) n i = sumZ (ldR (gi h 2)) (gi h 2 1).toNat 0) → 0 ≤ s ∧ s ≤ i → (∀ e e', hgR (gi h 2) e → hgR (gi h 2) e' → e < e' → e' < i → gi h 2 (88 + e) ≠ gi h 2 (88 + e')) → Lp_X8_right_9 d b Q s i h
  | 0, i, s, i0, e, hs, hb, hn => by
    have N : ¬ dup (gi h 2) := fun ⟨d, e, d0, d1, d2, d3, d4, d5⟩ => hn d e ⟨⟨d0, by omega⟩, d3⟩ ⟨⟨by omega, d2⟩, d4⟩ d1 (by omega) d5
    refine l_X8_right_9 ⟨fun _ => ?_, fun z => absurd (by omega) z⟩
    have := hs N
    rw [sumZ_0, Int.add_zero] at this
    rw [this]
    exact k2 N
  | n + 1, i, s, i0, e, hs, hb, hn => by
    have v1 := V.1
    refine l_X8_right_9 ⟨fun z => by omega, fun _ => ⟨by omega, by omega, fun z => ⟨by omega, ?_⟩, fun z => ?_⟩⟩
    · have nh : ¬ hgR (gi h 2) i := fun w => w.2 z
      refine lp_rM V k1 k2 n (i + 1) s (by omega) (by omega) (fun N => ?_) (by omega) (fun a c ha hc a1 a2 => ?_)
      · have := hs N
        rw [sumZ_s, ldR_fix V N ⟨i0, by omega⟩ (fC_f nh)] at this
        omega
      · refine hn a c ha hc a1 ?_
        by_cases w : c = i
        · rw [w] at hc; exact absurd hc nh
        · omega
    · have hi : hgR (gi h 2) i := ⟨⟨i0, by omega⟩, z⟩
      refine lp_rM2 V hi k1 (fun hn2 => ?_) i.toNat 0 (by decide) (by omega) (fun e he e1 => by have := he.1.1; omega)
      have nh : ∀ e e', hgR (gi h 2) e → hgR (gi h 2) e' → e < e' → e' < i + 1 → gi h 2 (88 + e) ≠ gi h 2 (88 + e') := fun a c ha hc a1 a2 => by
        by_cases w : c = i
        · rw [w]
          exact hn2 a ha (by omega)
        · exact hn a c ha hc a1 (by omega)
      have go : ∀ v, (v = 0 ∨ v = 1) → (¬ dup (gi h 2) → v = ldR (gi h 2) i) → Lp_X8_right_9 d b Q (s + v) (i + 1) h := fun v hv e2 => by
        refine lp_rM V k1 k2 n (i + 1) (s + v) (by omega) (by omega) (fun N => ?_) (by omega) nh
        have := hs N
        rw [sumZ_s] at this
        have := e2 N
        omega
      have l01 := b2i_01 (FF (fC (gi h 2) (dOf (gi h 2))) (7 - i).toNat i ≠ i)
      refine ⟨fun z2 => ⟨by omega, by omega, go 0 (Or.inl rfl) (fun N => ?_)⟩, fun z2 => ?_⟩
      · refine (ldR_fix V N ⟨i0, by omega⟩ ?_).symm
        rw [fC_t hi]
        rcases dOf_spec (r := gi h 2) (x := gi h 2 (88 + i)) (by omega) with ⟨s1, s2⟩ | ⟨s1, s2, s3⟩
        · exact absurd z2 (s2 i i0 (by omega))
        · by_cases c1 : i < dOf (gi h 2) (gi h 2 (88 + i))
          · exact absurd (V.2.2.1 i _ i0 c1 s2 (z2.trans s3.symm)) z
          · by_cases c2 : dOf (gi h 2) (gi h 2 (88 + i)) < i
            · have := V.2.2.1 _ i s1 c2 (by omega) (s3.trans z2.symm)
              have := (V.hm hi).1
              omega
            · omega
      · by_cases D : dup (gi h 2)
        · refine c_X8_leadAny V hi (fun v hv => ⟨v, rfl, fun w => ⟨by omega, by omega, go 1 (Or.inr rfl) (fun N => absurd D N)⟩, fun w => ⟨by omega, by omega, go 0 (Or.inl rfl) (fun N => absurd D N)⟩⟩)
        · refine c_X8_leadsRing V D hi ⟨_, rfl, fun w => ⟨by omega, by omega, go 1 (Or.inr rfl) (fun N => ?_)⟩, fun w => ⟨by omega, by omega, go 0 (Or.inl rfl) (fun N => ?_)⟩⟩
          · omega
          · unfold ldR at w ⊢
            omega
theorem cM_right {d b : Nat} {Q : Option AV → AH → Prop} {h : AH} (L : LawK h) (k1 : dup (gi h 2) → ∀ h', KM h h' → Q (some (vI (-1))) h') (k2 : ¬ dup (gi h 2) → ∀ h', KM h h' → Q (some (vI (swapsR (gi h 2)))) h') : WM GM (d + 2) b mX8_right [vR (some 0)] h Q := by
  have v1 := L.2.1.1
  refine w_X8_right ?_
  intro h1 e1
  have er : gi h1 2 = gi h 2 := by rw [e1, m2f]
  have K : KM h h1 := by rw [e1]; exact km0
  clear e1
  rw [← er] at k1 k2 v1
  have V : InvR (gi h1 2) := by rw [er]; exact L.2.1
  exact lp_rM V (fun z => k1 z _ K) (fun N => by rw [← swapsR_sum V N]; exact k2 N _ K) (gi h1 2 1).toNat 0 0 (by decide) (by omega) (fun _ => by rw [Int.zero_add]) (by decide) (fun a c ha hc a1 a2 => by have := ha.1.1; omega)
theorem q_right {n dx dm : Nat} {hX hM : AH} {Q : Option AV → AH → Prop} (R : RR n hX hM) (hn : n < 512) (hQ : ∀ rx hX', WM GM (dm + 2) 0 mX8_right [vR (some 0)] hM (fun rm hM' => RQ n rx rm hX' hM') → Q rx hX') : WM GX (dx + 1) 0 mX7_right [vR (some 0)] hX Q :=
  cX_right R.1 (fun z _ K => hQ _ _ (cM_right R.s.lawK (fun _ _ K' => RQ.mk rfl (R.kk hn K K')) (fun w => absurd z w))) (fun z _ K => hQ _ _ (cM_right R.s.lawK (fun w => absurd w z) (fun _ _ K' => RQ.mk rfl (R.kk hn K K'))))
