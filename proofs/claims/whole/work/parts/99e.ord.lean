/-! both sides while orders run -/
theorem RUo.to {off : Int} {hX hX' hM hM' : AH} (U : RUo off hX hM) (x1 : gi hX' 41 1 = gi hX 41 1) (x2 : ∀ k, gi hX' 42 k = gi hX 42 k) (m1 : gi hM' 0 8 = gi hM 0 8) (m2 : ∀ k, gi hM' 5 k = gi hM 5 k) (m3 : ∀ k, gi hM' 6 k = gi hM 6 k) (m4 : gi hM' 2 = gi hM 2) : RUo off hX' hM' := by
  have e5 : gi hM' 5 = gi hM 5 := funext m2
  unfold RUo RUj at *
  simp only [x1, x2, m1, e5, m3, m4]
  exact U
def eOr (ah : Int) (q : Nat) (k : Int) : Prop := EI 1 q k ∨ (q = 41 ∧ k = 1) ∨ (q = 42 ∧ 51 * ah ≤ k) ∨ (q = 0 ∧ (k = 12 ∨ k = 13))
/-- what stays while orders run -/
def SaX (hX0 : AH) (R : List Rec) : Prop := DrX hX0 ∧ AlX 1 hX0 R ∧ gi hX0 35 0 = R.length ∧ R.length ≤ 12 ∧ ∀ (j : Nat) (rc : Rec), R[j]? = some rc → (0 ≤ rc.1 ∧ rc.1 ≤ 4) ∧ (1 ≤ rc.2.2.2.1 ∧ rc.2.2.2.1 ≤ 20)
def SaM (hM0 : AH) (R : List Rec) : Prop := AllC 1 (codeH hM0) ∧ AlO hM0 R ∧ gi hM0 0 20 = 0 ∧ gi hM0 0 21 = R.length
def OrI (hX0 hM0 : AH) (ah dn lt : Int) (hX hM : AH) : Prop := RA hX 1 (gi hM 2) ∧ (∃ off, RUo off hX hM) ∧ gi hX 41 1 = ah + dn ∧ (gi hX 0 12 = dn ∧ gi hX 0 13 = lt ∧ gi hM 0 50 = dn ∧ gi hM 0 51 = lt) ∧ (-1 ≤ lt ∧ lt ≤ 1000000) ∧ FrX (eOr ah) hX0 hX ∧ FrO hM0 hM ∧ Out (gi hM0 2) (gi hM 2) ∧ ((dn = 0 ∧ gi hM 2 = gi hM0 2) ∨ (1 ≤ dn ∧ ∃ kd, Kp ah kd (gi hM0 2) hX)) ∧ ∀ i, 944 ≤ i → gi hM 5 i = gi hM0 5 i
theorem go_sk {F : Int → Int} {o : Option Vl} (G : GoT F o) (s : SkT F o) : False := by
  match o, G, s with
  | none, _, s => exact s
  | some x, G, s =>
    have G : x F = some 1 := G
    rcases s with s | s
    · rw [G] at s
      cases s
    · rw [G] at s
      cases s
theorem VlO.one {F : Int → Int} {o : Option Vl} {x y : Int} (a : VlO F o x) (b : VlO F o y) : x = y := by
  match o, a, b with
  | none, a, b =>
    have a : x = -1 := a
    have b : y = -1 := b
    omega
  | some v, a, b =>
    have a : v F = some x := a
    have b : v F = some y := b
    rw [a] at b
    exact Option.some.inj b
theorem VlO.bd {F : Int → Int} {o : Option Vl} {x : Int} (a : VlO F o x) (b : BdV F o) : False := by
  match o, a, b with
  | none, _, b => exact b
  | some v, a, b =>
    have a : v F = some x := a
    have b : v F = none := b
    rw [a] at b
    cases b
theorem StX.vb {mode : Int} {s F : Int → Int} {len v m : Int} {o : Option Vl} (S : StX mode s len v o (VB m)) (E : EnvOk m F) : VlB F o := by
  intro x hx w hw
  subst hx
  exact S.2.2 F E w hw
theorem StX.vt {mode : Int} {s F : Int → Int} {len v m : Int} {o : Option Vl} (S : StX mode s len v o (T01 m)) (E : EnvOk m F) : VlB F o := by
  intro x hx w hw
  subst hx
  have := S.2.2 F E w hw
  omega
section STEP
variable {hX0 hM0 hX hM : AH} {R : List Rec} {ah dn lt : Int}
theorem OrI.still {hX' hM' : AH} (I : OrI hX0 hM0 ah dn lt hX hM) (J : JX hX hX') (F : FrQ hM hM') : OrI hX0 hM0 ah dn lt hX' hM' := by
  obtain ⟨i1, ⟨off, i2⟩, i3, ⟨a1, a2, a3, a4⟩, i5, i6, i7, i8, i9, i10⟩ := I
  have e2 : gi hM' 2 = gi hM 2 := funext fun k => F.1 _ _ (by omega)
  refine ⟨by rw [e2]; exact i1.jx (by decide) J, ⟨off, i2.to (J.1 _ _ (by decide) (by decide)) (fun k => J.1 _ _ (by decide) (by decide)) (F.1 _ _ (by omega)) (fun k => F.1 _ _ (by omega)) (fun k => F.1 _ _ (by omega)) e2⟩, (J.1 _ _ (by decide) (by decide)).trans i3, ⟨(J.1 _ _ (by decide) (by decide)).trans a1, (J.1 _ _ (by decide) (by decide)).trans a2, (F.1 _ _ (by omega)).trans a3, (F.1 _ _ (by omega)).trans a4⟩, i5, i6.trans (J.fr.mono (fun q k w => by unfold eOr EI; omega)), i7.trans F.o, by rw [e2]; exact i8, ?_, fun i hi => (F.1 _ _ (by omega)).trans (i10 i hi)⟩
  rw [e2]
  exact i9.imp_right fun ⟨d1, kd, K⟩ => ⟨d1, kd, K.fr (fun k => J.1 _ _ (by decide) (by decide))⟩
theorem OrI.did {hX' hM' : AH} {kd x y lt' : Int} (I : OrI hX0 hM0 ah dn lt hX hM) (hd : 0 ≤ dn) (h0 : 0 ≤ ah) (hk : 0 ≤ kd ∧ kd ≤ 4) (A : RA hX' 1 (actR (gi hM 2) kd x y)) (O : Out (gi hM 2) (actR (gi hM 2) kd x y)) (F : FrX (eO (ah + dn)) hX hX') (n1 : gi hX' 41 1 = ah + dn + 1) (K : Kp (ah + dn) kd (gi hM 2) hX') (e12 : gi hX' 0 12 = dn + 1) (e13 : gi hX' 0 13 = lt') (er : gi hM' 2 = actR (gi hM 2) kd x y) (U : RemU kd hM hM') (G : FrO hM hM') (e50 : gi hM' 0 50 = dn + 1) (e51 : gi hM' 0 51 = lt') (hl : -1 ≤ lt' ∧ lt' ≤ 1000000) : OrI hX0 hM0 ah (dn + 1) lt' hX' hM' := by
  obtain ⟨i1, ⟨off, i2⟩, i3, -, i5, i6, i7, i8, i9, i10⟩ := I
  obtain ⟨off', -, U'⟩ := i2.act (hX' := si (si hX' 0 12 (gi hX 0 12)) 0 13 (gi hX 0 13)) hk i3 O er U ⟨fun q k z => by
    by_cases c1 : q = 0 ∧ k = 13
    · rw [c1.1, c1.2, gi_eq]
    rw [gi_ne (by omega)]
    by_cases c2 : q = 0 ∧ k = 12
    · rw [c2.1, c2.2, gi_eq]
    rw [gi_ne (by omega)]
    exact F.1 q k (fun w => w.elim z (fun w => by omega)), F.2⟩ (by rw [gi_no (by decide), gi_no (by decide)]; exact n1) (K.fr (fun k => by rw [gi_no (by decide), gi_no (by decide)])) i1.2.2
  refine ⟨by rw [er]; exact A, ⟨off', U'.to (by rw [gi_no (by decide), gi_no (by decide)]) (fun k => by rw [gi_no (by decide), gi_no (by decide)]) rfl (fun _ => rfl) (fun _ => rfl) rfl⟩, by omega, ⟨e12, e13, e50, e51⟩, hl, i6.trans (F.mono (fun q k w => by unfold eO eA eK EI at w; unfold eOr EI; omega)), i7.trans G, by rw [er]; exact i8.trans O, Or.inr ⟨by omega, ?_⟩, fun i hi => ?_⟩
  · rcases i9 with ⟨d0, e0⟩ | ⟨d1, kd', K'⟩
    · refine ⟨kd, ?_⟩
      rw [← e0]
      rw [show ah + dn = ah by omega] at K
      exact K
    · have x : ∀ k, k < 51 * ah + 51 → gi hX' 42 k = gi hX 42 k := fun k z => F.1 _ _ (by unfold eO eA EI eK; omega)
      refine ⟨kd', (x _ (by omega)).trans K'.1, (x _ (by omega)).trans K'.2.1, fun i i0 i1 => (x _ (by omega)).trans (K'.2.2.1 i i0 i1), fun i i0 i1 => (x _ (by omega)).trans (K'.2.2.2 i i0 i1)⟩
  · obtain ⟨s, -, -, -, -, -, -, u⟩ := U
    exact (u i hi).trans (i10 i hi)
theorem FrO.code {a b : AH} (x : FrO a b) : codeH b = codeH a := by
  unfold codeH
  rw [show gi b 11 = gi a 11 from funext (fun k => x.1 _ _ (by unfold eRn; omega)), show gi b 12 = gi a 12 from funext (fun k => x.1 _ _ (by unfold eRn; omega)), x.1 0 23 (by unfold eRn; omega)]
theorem actN_R {r : Int → Int} {k d to : Int} (V : InvR r) (hk : k = 2) (hz : refR r k d to = 0) : -1 ≤ actN r k d to ∧ actN r k d to ≤ 1000000 := by
  subst hk
  obtain ⟨hd, -, -, can⟩ := canR_of (by decide) hz
  have v0 := actN_0 V (k := 2) (by omega) hz
  have V2 := V.2.1 d hd.1 hd.2
  have cr : -1 ≤ r (15 + d) ∧ r (15 + d) ≤ 24 := by omega
  clear V2
  unfold canR at can
  have c : ¬ r (15 + d) = -1 := by omega
  have I3 := V.2.2.2.1 (r (15 + d)) (by omega) (by omega)
  have e : actN r 2 d to = rCatch r d (r (15 + d)) (r (39 + r (15 + d))) (r (23 + d)) := by
    unfold actN
    rw [if_neg (by decide), if_neg (by decide), if_pos rfl]
  rw [e] at v0 ⊢
  have q := rCatch_R r d (r (15 + d)) (r (39 + r (15 + d))) (r (23 + d)) I3.1
  omega
/-- the class's part -/
def OrX (hX0 : AH) (r0 : Int → Int) (ah dn lt : Int) (r : Int → Int) (hX : AH) : Prop := RA hX 1 r ∧ gi hX 41 1 = ah + dn ∧ (gi hX 0 12 = dn ∧ gi hX 0 13 = lt) ∧ (-1 ≤ lt ∧ lt ≤ 1000000) ∧ FrX (eOr ah) hX0 hX ∧ Out r0 r ∧ ((dn = 0 ∧ r = r0) ∨ (1 ≤ dn ∧ ∃ kd, Kp ah kd r0 hX))
theorem OrX.still {r r0 : Int → Int} {hX' : AH} (I : OrX hX0 r0 ah dn lt r hX) (J : JX hX hX') : OrX hX0 r0 ah dn lt r hX' := ⟨I.1.jx (by decide) J, (J.1 _ _ (by decide) (by decide)).trans I.2.1, ⟨(J.1 _ _ (by decide) (by decide)).trans I.2.2.1.1, (J.1 _ _ (by decide) (by decide)).trans I.2.2.1.2⟩, I.2.2.2.1, I.2.2.2.2.1.trans (J.fr.mono (fun q k w => by unfold eOr EI; omega)), I.2.2.2.2.2.1, I.2.2.2.2.2.2.imp_right fun ⟨d1, kd, K⟩ => ⟨d1, kd, K.fr (fun k => J.1 _ _ (by decide) (by decide))⟩⟩
/-- one order once, on both sides -/
theorem or_step {d b dm : Nat} {Q : Option AV → AH → Prop} {c : Nat} {rc : Rec} {r r0 : Int → Int} (St : SaX hX0 R) (I : OrX hX0 r0 ah dn lt r hX) (hr : R[c]? = some rc) (hd : 0 ≤ dn ∧ dn < 240) (ha : 0 ≤ ah ∧ ah ≤ 16)
    (kO : ∀ hX' dn' lt' r', (dn ≤ dn' ∧ dn' ≤ dn + 1) → OrX hX0 r0 ah dn' lt' r' hX' → (∀ hM0 hM, SaM hM0 R → gi hM0 2 = r0 → OrI hX0 hM0 ah dn lt hX hM → gi hM 2 = r → ∀ P : Option AV → AH → Prop, (∀ hM', OrI hX0 hM0 ah dn' lt' hX' hM' → gi hM' 2 = r' → P (some (vI 0)) hM') → WM GM (dm + 9) 0 mX8_run [vR (some 0), vI (8 * c)] hM P) → Q (some (vI 1)) hX')
    (kB : ∀ hX', OrX hX0 r0 ah dn lt r hX' → (∀ hM0 hM, SaM hM0 R → gi hM0 2 = r0 → OrI hX0 hM0 ah dn lt hX hM → gi hM 2 = r → ∀ P : Option AV → AH → Prop, (∀ hM', OrI hX0 hM0 ah dn lt hX' hM' → gi hM' 2 = r → P (some (vI (-3))) hM') → WM GM (dm + 9) 0 mX8_run [vR (some 0), vI (8 * c)] hM P) → Q (some (vI 0)) hX') : WM GX (d + 5) b mX7_isObeyed [vR (some 0), vR (some 35), vI c] hX Q := by
  obtain ⟨s1, s2, s3, s4, s5⟩ := St
  have IX := I
  obtain ⟨i1, i3, ⟨a1, a2⟩, i5, i6, i8, i9⟩ := I
  have hc : c < R.length := by
    rcases Nat.lt_or_ge c R.length with z | z
    · exact z
    · rw [List.getElem?_eq_none z] at hr
      cases hr
  have f36 : gi hX 36 = gi hX0 36 := funext fun k => i6.1 _ _ (by unfold eOr EI; omega)
  have f37 : gi hX 37 = gi hX0 37 := funext fun k => i6.1 _ _ (by unfold eOr EI; omega)
  have f35 : gi hX 35 2 = gi hX0 35 2 := i6.1 _ _ (by unfold eOr EI; omega)
  have D : DrX hX := by
    obtain ⟨d1, d2, d3, d4⟩ := s1
    exact ⟨by rw [i6.2.1]; exact d1, by rw [i6.2.1]; exact d2, by rw [f35]; exact d3, by rw [f37, f35]; exact d4⟩
  have C : ClX 1 (gi hX 36) (gi hX 37) (gi hX 35 2) c rc := by
    rw [f36, f37, f35]
    exact s2 c rc hr
  have hv := (s5 c rc hr).1
  have V := i1.2.2
  have RN : ∀ hM0 hM, SaM hM0 R → OrI hX0 hM0 ah dn lt hX hM → gi hM 2 = r → ∀ F, EvO r dn lt F → RnM hM r F dn lt c rc := fun hM0 hM SM I er F E => by
    obtain ⟨m5, m6, m7, -⟩ := SM
    obtain ⟨j1, ⟨off, j2⟩, j3, ⟨b1, b2, b3, b4⟩, j5, j6, j7, j8, j9, j10⟩ := I
    have EK := E.ok V (by omega) i5
    have f29 : gi hM 29 = gi hM0 29 := funext fun k => j7.1 _ _ (by unfold eRn; omega)
    refine ⟨er, ⟨(j7.1 _ _ (by unfold eRn; omega)).trans m7, by rw [er]; exact V, fun z => j1.okC z⟩, ⟨j2.2.2.2.1, j2.2.2.2.2.1⟩, by rw [j7.code]; exact m5, ?_, by omega, b3, b4, by omega, i5, E, C.2.1.vb EK, C.2.2.1.vb EK, C.2.2.2.2.vt EK⟩
    rw [j7.code, f29]
    exact m6 c rc hr
  have hk : rc.1 = 0 ∨ rc.1 = 1 ∨ rc.1 = 2 ∨ rc.1 = 3 ∨ rc.1 = 4 := by omega
  refine c_obey (n := ah + dn) i1 D (by omega) hv C a1 a2 (by omega) i5 i3 (by omega) (fun h' F E J s => ?_) (fun h' F E J G nv => ?_) (fun h' F x y E G vx vy z A V1 O F' n1 K e12 e13 => ?_)
  · exact kO h' dn lt r ⟨by omega, by omega⟩ (IX.still J) (fun hM0 hM SM e00 I er P KP => c_run (RN hM0 hM SM I er F E) (Or.inr s) (fun _ hM' Fq => KP hM' (I.still J Fq) ((funext fun k => Fq.1 _ _ (by omega)).trans er)) (fun G => (go_sk G s).elim) (fun G => (go_sk G s).elim))
  · refine kB h' (IX.still J) (fun hM0 hM SM e00 I er P KP => c_run (RN hM0 hM SM I er F E) (Or.inl G) (fun s => (go_sk G s).elim) (fun _ _ hM' Fq => KP hM' (I.still J Fq) ((funext fun k => Fq.1 _ _ (by omega)).trans er)) (fun _ x y vx vy z => ?_))
    rcases nv with nv | nv | ⟨x', y', vx', vy', nz⟩
    · exact (vx.bd nv).elim
    · exact (vy.bd nv).elim
    · rw [vx'.one vx, vy'.one vy] at nz
      exact absurd z nz
  · have l5 : -1 ≤ (if rc.1 = 2 then actN r rc.1 x y else lt) ∧ (if rc.1 = 2 then actN r rc.1 x y else lt) ≤ 1000000 := by
      by_cases c2 : rc.1 = 2
      · rw [if_pos c2]
        exact actN_R V c2 z
      · rw [if_neg c2]
        exact i5
    have kp : ∃ kd, Kp ah kd r0 h' := by
      rcases i9 with ⟨d0, e0⟩ | ⟨d1, kd', K'⟩
      · refine ⟨rc.1, ?_⟩
        rw [← e0]
        rw [show ah + dn = ah by omega] at K
        exact K
      · have x : ∀ k, k < 51 * ah + 51 → gi h' 42 k = gi hX 42 k := fun k z => F'.1 _ _ (by unfold eO eA EI eK; omega)
        exact ⟨kd', (x _ (by omega)).trans K'.1, (x _ (by omega)).trans K'.2.1, fun i i0 i1 => (x _ (by omega)).trans (K'.2.2.1 i i0 i1), fun i i0 i1 => (x _ (by omega)).trans (K'.2.2.2 i i0 i1)⟩
    refine kO h' (dn + 1) (if rc.1 = 2 then actN r rc.1 x y else lt) (actR r rc.1 x y) ⟨by omega, by omega⟩ ⟨A, by omega, ⟨e12, e13⟩, l5, i6.trans (F'.mono (fun q k w => by unfold eO eA eK EI at w; unfold eOr EI; omega)), i8.trans O, Or.inr ⟨by omega, kp⟩⟩ (fun hM0 hM SM e00 I er P KP => c_run (RN hM0 hM SM I er F E) (Or.inl G) (fun s => (go_sk G s).elim) (fun _ nv => ?_) (fun _ x' y' vx' vy' z' hM' er' U FO e50 e51 => ?_))
    · rcases nv with nv | nv | ⟨x', y', vx', vy', nz⟩
      · exact (vx.bd nv).elim
      · exact (vy.bd nv).elim
      · rw [vx'.one vx, vy'.one vy] at nz
        exact absurd z nz
    · rw [vx'.one vx, vy'.one vy] at er' e51
      subst er
      exact KP hM' (I.did hd.1 ha.1 (by omega) A O F' n1 K e12 e13 er' U FO e50 e51 l5) er'
end STEP
