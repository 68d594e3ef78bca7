/-! the first such row in the reference; hanging, battle held against each other -/
section RM
variable {d b : Nat} {Q : Option AV → AH → Prop} {h0 : AH} {r : Int → Int} {n m : Nat} {war : Int}
theorem lp_rA45 (L : LawK h0) (er0 : gi h0 2 = r) (hn : (n : Int) = r 1) (hm : (m : Int) = mW war r) (h8 : n ≤ 8 ∧ m ≤ 8) (hw : R32 war) {i : Nat} (hi : i < n) {x t : Nat} (ht : t < 2 ^ m)
    (k0 : ∀ h', KM h0 h' → MX (wW war r) n m h' n → ∀ its, its = sel (wW war r) m (n - i - 1) i t → (its = 100 → R32 ((t : Int) + 0) ∧ R32 ((i : Int) + 1) ∧ Lp_X8_rowAt_30 d b Q war x m ((t : Int) + 0) its ((i : Int) + 1) h') ∧ (¬ (its = 100) → R32 ((t : Int) + (zshl 1 its)) ∧ R32 ((i : Int) + 1) ∧ Lp_X8_rowAt_30 d b Q war x m ((t : Int) + (zshl 1 its)) its ((i : Int) + 1) h')) :
    ∀ (c : Nat) (its : Int) (h : AH), c ≤ m → KM h0 h → MX (wW war r) n m h n → its = fstK (gW (wW war r) (bst (wW war r) m (n - i - 1) ((i : Int) + 1)) i t) (bst (wW war r) m (n - i - 1 + 1) i t) (m - c) c → Lp_X8_rowAt_45 d b Q war x m t its i ((c : Int) - 1) h
  | c, its, h, e, K, M, hs => by
    have I1 := L.2.1.1
    rw [er0] at I1
    have er : gi h 2 = r := K.row.trans er0
    have I2 := L.2.1.2.1 (i : Int)
    rw [er0] at I2
    have w8 := (I2 (by omega) (by omega)).2.2.2.2.2.2.2.1
    clear I2
    have p := p256 h8.2
    have bv := bst_R (wW_R war r) m (n - i - 1 + 1) i t
    match c, e, hs with
    | 0, e, hs =>
      exact l_X8_rowAt_45 ⟨fun _ => k0 h K M its hs, fun z => absurd (by omega) z⟩
    | c + 1, e, hs =>
      rw [show ((c + 1 : Nat) : Int) - 1 = c by omega]
      have ec : (c : Int) + (-1) = (c : Int) - 1 := by omega
      have st : fstK (gW (wW war r) (bst (wW war r) m (n - i - 1) ((i : Int) + 1)) i t) (bst (wW war r) m (n - i - 1 + 1) i t) (m - c) c = if gW (wW war r) (bst (wW war r) m (n - i - 1) ((i : Int) + 1)) i t c = bst (wW war r) m (n - i - 1 + 1) i t then (c : Int) else its := by
        rw [show m - c = m - (c + 1) + 1 by omega, fstK_s, hs, Int.natCast_succ]
      have gk : gW (wW war r) (bst (wW war r) m (n - i - 1) ((i : Int) + 1)) i t c = if wW war r i c = -1 ∨ t.testBit c = true then -1 else wW war r i c + bst (wW war r) m (n - i - 1) ((i : Int) + 1) (t ||| 2 ^ c) := by
        unfold gW
        rw [Int.toNat_natCast]
      have no : ∀ h', KM h0 h' → MX (wW war r) n m h' n → ¬ gW (wW war r) (bst (wW war r) m (n - i - 1) ((i : Int) + 1)) i t c = bst (wW war r) m (n - i - 1 + 1) i t → Lp_X8_rowAt_45 d b Q war x m t its i ((c : Int) + (-1)) h' := fun h' K' M' z => by
        rw [ec]
        exact lp_rA45 L er0 hn hm h8 hw hi ht k0 c its h' (by omega) K' M' (by rw [st, if_neg z])
      have yes : ∀ h', KM h0 h' → MX (wW war r) n m h' n → gW (wW war r) (bst (wW war r) m (n - i - 1) ((i : Int) + 1)) i t c = bst (wW war r) m (n - i - 1 + 1) i t → Lp_X8_rowAt_45 d b Q war x m t c i ((c : Int) + (-1)) h' := fun h' K' M' z => by
        rw [ec]
        exact lp_rA45 L er0 hn hm h8 hw hi ht k0 c c h' (by omega) K' M' (by rw [st, if_pos z])
      refine l_X8_rowAt_45 ⟨fun z => by omega, fun _ => ⟨by omega, by omega, ?_⟩⟩
      rw [er]
      refine ⟨fun z => ?_, fun z => ?_⟩
      · rw [zt (by omega) (by omega)]
        refine ⟨fun w => ⟨by omega, no h K M (by rw [gk, if_pos (Or.inr w)]; omega)⟩, fun w => ?_⟩
        have w' : t.testBit c = false := by
          cases q : t.testBit c
          · rfl
          · exact absurd q w
        have oa := or_add c (by omega) t (by omega) w'
        have ol := or_lt (m := m) (k := c) (by omega) ht
        refine c_X8_worthOf (L.km K) er (by omega) (by omega) z (fun h1 T1 => ⟨_, rfl, ?_⟩) hw ⟨by omega, by omega⟩
        have M1 : MX (wW war r) n m h1 n := M.eq (fun q => T1.1 _ _ (by omega))
        have K1 := K.trans T1.km
        refine ⟨fun y => ⟨by omega, no h1 K1 M1 (by rw [gk, if_pos (Or.inl y)]; omega)⟩, fun y => ?_⟩
        rw [if_neg (fun q => q.elim y w)] at gk
        have b2 := bst_R (wW_R war r) m (n - i - 1) ((i : Int) + 1) (t ||| 2 ^ c)
        have wr := wW_R war r i c
        have mv := M1 (n - i - 1) (by omega) (t ||| 2 ^ c) ol
        rw [show (n : Int) - ((n - i - 1 : Nat) : Int) = (i : Int) + 1 by omega] at mv
        have mu := M1 (n - i - 1 + 1) (by omega) t ht
        rw [show (n : Int) - ((n - i - 1 + 1 : Nat) : Int) = i by omega] at mu
        have ix : 256 * (i : Int) + 256 + t + zshl 1 c = 256 * ((i : Int) + 1) + ((t ||| 2 ^ c : Nat) : Int) := by
          rw [zshl_1 (by omega), oa]
          omega
        rw [ix, mv, mu]
        refine ⟨by omega, by omega, by omega, by omega, by omega, by omega, by omega, by omega, by omega, fun q => ⟨by omega, yes h1 K1 M1 (gk.trans q)⟩, fun q => ⟨by omega, no h1 K1 M1 (fun u => q (gk.symm.trans u))⟩⟩
      · have lo : r (31 + (i : Int)) = 1 := by omega
        have ne : ∀ l, ¬ gW (wW war r) (bst (wW war r) m (n - i - 1) ((i : Int) + 1)) i t l = bst (wW war r) m (n - i - 1 + 1) i t := fun l => by
          unfold gW
          rw [if_pos (Or.inl (wW_lost lo))]
          omega
        have all : ∀ (a : Nat) (l : Int), fstK (gW (wW war r) (bst (wW war r) m (n - i - 1) ((i : Int) + 1)) i t) (bst (wW war r) m (n - i - 1 + 1) i t) a l = 100 := by
          intro a
          induction a with
          | zero => intro l; rfl
          | succ a ih => intro l; rw [fstK_s, if_neg (ne l), ih]
        exact k0 h K M its (by
          unfold sel
          rw [hs, all, all])
theorem lp_rA30 (L : LawK h0) (er0 : gi h0 2 = r) (hn : (n : Int) = r 1) (hm : (m : Int) = mW war r) (h8 : n ≤ 8 ∧ m ≤ 8) (hw : R32 war) {x : Nat} (hx : x < n) (k0 : ∀ h', KM h0 h' → Q (some (vI (chs (wW war r) m n x))) h') :
    ∀ (c i : Nat) (its : Int) (h : AH), i + c = x + 1 → KM h0 h → MX (wW war r) n m h n → (i = x + 1 → its = chs (wW war r) m n x) → Lp_X8_rowAt_30 d b Q war x m (tkn (wW war r) m n i) its i h
  | 0, i, its, h, e, K, M, hi => by
    refine l_X8_rowAt_30 ⟨fun _ => ?_, fun z => absurd (by omega) z⟩
    rw [hi (by omega)]
    exact k0 h K
  | c + 1, i, its, h, e, K, M, hi => by
    have p := p256 h8.2
    have t := tkn_ok (W := wW war r) (n := n) h8.2 i
    refine l_X8_rowAt_30 ⟨fun z => by omega, fun _ => ⟨by omega, ?_⟩⟩
    refine lp_rA45 L er0 hn hm h8 hw (i := i) (by omega) t.1 (fun h' K' M' its' hs' => ?_) m 100 h (Nat.le_refl _) K M (by rw [Nat.sub_self]; rfl)
    have nx : ∀ T : Int, T = (tkn (wW war r) m n (i + 1) : Nat) → Lp_X8_rowAt_30 d b Q war x m T its' ((i : Int) + 1) h' := fun T hT => by
      have := lp_rA30 L er0 hn hm h8 hw hx k0 c (i + 1) its' h' (by omega) K' M' (fun z => by rw [hs']; unfold chs; rw [show i = x by omega])
      rw [Int.natCast_succ, ← hT] at this
      exact this
    have fr := fstK_R (g := gW (wW war r) (bst (wW war r) m (n - i - 1) ((i : Int) + 1)) i (tkn (wW war r) m n i)) (v := bst (wW war r) m (n - i - 1 + 1) i (tkn (wW war r) m n i)) m 0
    have bv := bst_R (wW_R war r) m (n - i - 1 + 1) i (tkn (wW war r) m n i)
    refine ⟨fun z => ⟨by omega, by omega, nx _ ?_⟩, fun z => ?_⟩
    · rw [tkn_s]
      unfold nxt
      rw [if_pos (by rw [← hs']; exact z), Int.add_zero]
    · have fr2 := fr.resolve_left (fun q => z (hs'.trans q))
      rw [← show sel (wW war r) m (n - i - 1) i (tkn (wW war r) m n i) = fstK (gW (wW war r) (bst (wW war r) m (n - i - 1) ((i : Int) + 1)) i (tkn (wW war r) m n i)) (bst (wW war r) m (n - i - 1 + 1) i (tkn (wW war r) m n i)) m 0 from rfl, ← hs'] at fr2
      obtain ⟨a, ea⟩ : ∃ a : Nat, its' = a := ⟨its'.toNat, by omega⟩
      have tb : (tkn (wW war r) m n i).testBit a = false := by
        cases q : (tkn (wW war r) m n i).testBit a
        · rfl
        · have g3 := fr2.2.2
          unfold gW at g3
          rw [ea, Int.toNat_natCast, if_pos (Or.inr q)] at g3
          omega
      have oa := or_add a (by omega) (tkn (wW war r) m n i) (by omega) tb
      have ol := or_lt (m := m) (k := a) (by omega) t.1
      have e2 : ((tkn (wW war r) m n i : Nat) : Int) + zshl 1 its' = ((tkn (wW war r) m n (i + 1) : Nat) : Int) := by
        rw [tkn_s]
        unfold nxt
        rw [if_neg (by rw [← hs']; exact z), ← hs', ea, Int.toNat_natCast, zshl_1 (by omega), oa]
        omega
      have t1 := tkn_ok (W := wW war r) (n := n) h8.2 (i + 1)
      rw [e2]
      exact ⟨by omega, by omega, nx _ rfl⟩
theorem c_X8_rowAt {h : AH} (L : LawK h) (hw : R32 war) {x : Int} (hx : 0 ≤ x ∧ x < gi h 2 1) (M : MX (wW war (gi h 2)) (gi h 2 1).toNat (mW war (gi h 2)).toNat h (gi h 2 1).toNat) (k0 : ∀ h', KM h h' → Q (some (vI (chs (wW war (gi h 2)) (mW war (gi h 2)).toNat (gi h 2 1).toNat x.toNat))) h') : WM GM (d + 7) b mX8_rowAt [vR (some 0), vI war, vI x] h Q := by
  have I1 := L.2.1.1
  have mr := mW_R L war
  have go : ∀ N, N = mW war (gi h 2) → Lp_X8_rowAt_30 d b Q war x N 0 100 0 h := fun N eN => by
    have := lp_rA30 (d := d) (b := b) (Q := Q) L rfl (n := (gi h 2 1).toNat) (m := (mW war (gi h 2)).toNat) (by omega) (by omega) ⟨by omega, by omega⟩ hw (x := x.toNat) (by omega) k0 (x.toNat + 1) 0 100 h (by omega) KM.rfl' M (fun z => by omega)
    rw [show ((x.toNat : Nat) : Int) = x by omega, show (((mW war (gi h 2)).toNat : Nat) : Int) = N by omega] at this
    exact this
  exact w_X8_rowAt ⟨fun z => go _ (by unfold mW; rw [if_pos z]), fun z => go _ (by unfold mW; rw [if_neg z])⟩
end RM
theorem cM_hanging {d b : Nat} {Q : Option AV → AH → Prop} {h : AH} {x1 : Int} (L : LawK h) (k : ∀ h', KM h h' → Q (some (vI (fHang (gi h 2) x1))) h') : WM GM (d + 8) b mX8_hanging [vR (some 0), vI x1] h Q := by
  have I1 := L.2.1.1
  have br := bst_R (wH_R (gi h 2)) (gi h 2 0).toNat (gi h 2 1).toNat 0 0
  have e1 : gi (si h 0 0 0) 2 = gi h 2 := m2f
  have ew : wW 0 (gi h 2) = wH (gi h 2) := rfl
  have em : mW 0 (gi h 2) = gi h 2 0 := rfl
  have lay : ∀ {Q' : Option AV → AH → Prop}, (∀ h', KM h h' → MX (wH (gi h 2)) (gi h 2 1).toNat (gi h 2 0).toNat h' (gi h 2 1).toNat → Q' none h') → WM GM (d + 7) 0 mX8_layMost [vR (some 0), vI 0] (si h 0 0 0) Q' := fun kk => by
    refine c_X8_layMost (L.km km0) (by decide) (fun h' K M => kk h' (km0.trans K) ?_)
    rw [e1, ew, em] at M
    exact M
  have m0 : ∀ h', MX (wH (gi h 2)) (gi h 2 1).toNat (gi h 2 0).toNat h' (gi h 2 1).toNat → gi h' 22 0 = bst (wH (gi h 2)) (gi h 2 0).toNat (gi h 2 1).toNat 0 0 := fun h' M => by
    have := M _ (Nat.le_refl _) 0 (Nat.two_pow_pos _)
    rw [show 256 * ((((gi h 2 1).toNat : Nat) : Int) - ((gi h 2 1).toNat : Nat)) + ((0 : Nat) : Int) = 0 by omega, show (((gi h 2 1).toNat : Nat) : Int) - ((gi h 2 1).toNat : Nat) = 0 by omega] at this
    exact this
  unfold fHang at k
  refine w_X8_hanging ?_
  intro R h1 eh
  subst eh
  rw [m2]
  refine ⟨fun z => ?_, fun z => ⟨fun z1 => lay (fun h' K M => ⟨rfl, ?_⟩), fun z1 => ⟨by omega, by omega, fun z2 => ⟨by omega, by omega, by omega, fun z3 => ?_, fun z3 => lay (fun h' K M => ⟨rfl, fun w => by omega, fun _ => ⟨fun w => by omega, fun _ => ⟨by omega, ?_⟩⟩⟩)⟩, fun z2 => ?_⟩⟩⟩
  · have := k _ km0
    rwa [if_neg (by omega), if_neg (by omega), if_neg (by omega)] at this
  · have kk := k h' K
    rw [m0 h' M, tdiv_e br.1, tmod_e br.1]
    refine ⟨fun w => ⟨by omega, ?_⟩, fun w => ⟨fun y => ⟨by omega, ?_⟩, fun y => by omega⟩⟩
    · rwa [if_pos w] at kk
    · rwa [if_neg w, if_pos y] at kk
  · have := k _ km0
    rw [show 31 + x1 - 2 = 31 + (x1 - 2) by omega] at z3
    rwa [if_neg (by omega), if_neg (by omega), if_neg (fun q => q.2.2 z3)] at this
  · rw [show 31 + x1 - 2 = 31 + (x1 - 2) by omega] at z3
    have er' : gi h' 2 = gi h 2 := K.row
    refine c_X8_rowAt (L.km K) (by decide) (by rw [er']; omega) (by rw [er', ew, em]; exact M) (fun h2 K2 => ⟨_, rfl, ?_⟩)
    rw [er', ew, em]
    have := k h2 (K.trans K2)
    rwa [if_neg (by omega), if_neg (by omega), if_pos ⟨by omega, z2.2, z3⟩] at this
  · have := k _ km0
    rwa [if_neg (by omega), if_neg (by omega), if_neg (fun q => z2 ⟨by omega, q.2.1⟩)] at this
theorem q_hanging {n dx dm : Nat} {hX hM : AH} {Q : Option AV → AH → Prop} {x1 : Int} (R : RR n hX hM) (hn : n < 512) (hQ : ∀ rx hX', WM GM (dm + 8) 0 mX8_hanging [vR (some 0), vI x1] hM (fun rm hM' => RQ n rx rm hX' hM') → Q rx hX') : WM GX (dx + 5) 0 mX7_hanging [vR (some 0), vI x1] hX Q :=
  cX_hanging R.1 (fun _ K => hQ _ _ (cM_hanging R.s.lawK (fun _ K' => RQ.mk rfl (R.kk hn K K'))))
theorem cM_battle {d b : Nat} {Q : Option AV → AH → Prop} {h : AH} {x1 : Int} (L : LawK h) (k : ∀ h', KM h h' → Q (some (vI (fBat (gi h 2) x1))) h') : WM GM (d + 8) b mX8_battle [vR (some 0), vI x1] h Q := by
  have I1 := L.2.1.1
  have e1 : gi (si h 0 0 0) 2 = gi h 2 := m2f
  have ew : wW 1 (gi h 2) = wB (gi h 2) := rfl
  have em : mW 1 (gi h 2) = gi h 2 2 := rfl
  have lay : ∀ {Q' : Option AV → AH → Prop}, (∀ h', KM h h' → MX (wB (gi h 2)) (gi h 2 1).toNat (gi h 2 2).toNat h' (gi h 2 1).toNat → Q' none h') → WM GM (d + 7) 0 mX8_layMost [vR (some 0), vI 1] (si h 0 0 0) Q' := fun kk => by
    refine c_X8_layMost (L.km km0) (by decide) (fun h' K M => kk h' (km0.trans K) ?_)
    rw [e1, ew, em] at M
    exact M
  have m0 : ∀ h', MX (wB (gi h 2)) (gi h 2 1).toNat (gi h 2 2).toNat h' (gi h 2 1).toNat → gi h' 22 0 = bst (wB (gi h 2)) (gi h 2 2).toNat (gi h 2 1).toNat 0 0 := fun h' M => by
    have := M _ (Nat.le_refl _) 0 (Nat.two_pow_pos _)
    rw [show 256 * ((((gi h 2 1).toNat : Nat) : Int) - ((gi h 2 1).toNat : Nat)) + ((0 : Nat) : Int) = 0 by omega, show (((gi h 2 1).toNat : Nat) : Int) - ((gi h 2 1).toNat : Nat) = 0 by omega] at this
    exact this
  unfold fBat at k
  refine w_X8_battle ?_
  intro R h1 eh
  subst eh
  rw [m2]
  refine ⟨fun z => ?_, fun z => ⟨fun z1 => lay (fun h' K M => ⟨rfl, fun w => ?_, fun w => absurd (by omega) w⟩), fun z1 => ⟨by omega, by omega, fun z2 => ⟨by omega, by omega, by omega, fun z3 => ?_, fun z3 => lay (fun h' K M => ⟨rfl, fun w => by omega, fun _ => ⟨by omega, ?_⟩⟩)⟩, fun z2 => ?_⟩⟩⟩
  · have := k _ km0
    rwa [if_neg (by omega), if_neg (by omega)] at this
  · have kk := k h' K
    rw [m0 h' M]
    rwa [if_pos w] at kk
  · have := k _ km0
    rw [show 31 + x1 - 1 = 31 + (x1 - 1) by omega] at z3
    rwa [if_neg (by omega), if_neg (fun q => q.2.2 z3)] at this
  · rw [show 31 + x1 - 1 = 31 + (x1 - 1) by omega] at z3
    have er' : gi h' 2 = gi h 2 := K.row
    refine c_X8_rowAt (L.km K) (by decide) (by rw [er']; omega) (by rw [er', ew, em]; exact M) (fun h2 K2 => ⟨_, rfl, ?_⟩)
    rw [er', ew, em]
    have := k h2 (K.trans K2)
    rwa [if_neg (by omega), if_pos ⟨by omega, z2.2, z3⟩] at this
  · have := k _ km0
    rwa [if_neg (by omega), if_neg (fun q => z2 ⟨by omega, q.2.1⟩)] at this
theorem q_battle {n dx dm : Nat} {hX hM : AH} {Q : Option AV → AH → Prop} {x1 : Int} (R : RR n hX hM) (hn : n < 512) (hQ : ∀ rx hX', WM GM (dm + 8) 0 mX8_battle [vR (some 0), vI x1] hM (fun rm hM' => RQ n rx rm hX' hM') → Q rx hX') : WM GX (dx + 3) 0 mX7_battle [vR (some 0), vI x1] hX Q :=
  cX_battle R.1 (fun _ K => hQ _ _ (cM_battle R.s.lawK (fun _ K' => RQ.mk rfl (R.kk hn K K'))))
