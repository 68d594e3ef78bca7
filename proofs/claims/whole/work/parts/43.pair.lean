/-! pairs: the most that they are worth, the first such row -/
def mxf (g : Int → Int) : Nat → Int → Int → Int
  | 0, _, c => c
  | n + 1, k, c => mxf g n (k + 1) (max c (g k))
theorem mxf_s (g : Int → Int) (n : Nat) (k c : Int) : mxf g (n + 1) k c = mxf g n (k + 1) (max c (g k)) := rfl
theorem mxf_last (g : Int → Int) : ∀ (n : Nat) (k c : Int), mxf g (n + 1) k c = max (mxf g n k c) (g (k + n))
  | 0, k, c => by
    show max c (g k) = max c (g (k + 0))
    rw [Int.add_zero]
  | n + 1, k, c => by
    rw [mxf_s, mxf_last g n (k + 1), ← mxf_s, show k + 1 + (n : Int) = k + ((n + 1 : Nat) : Int) by omega]
theorem mxf_R {g : Int → Int} {lo hi : Int} (h : ∀ k, g k ≤ hi) : ∀ (n : Nat) (k c : Int), lo ≤ c → c ≤ hi → lo ≤ mxf g n k c ∧ mxf g n k c ≤ hi
  | 0, _, _, h1, h2 => ⟨h1, h2⟩
  | n + 1, k, c, h1, h2 => by
    rw [mxf_s]
    have := h k
    exact mxf_R h n (k + 1) _ (by omega) (by omega)
theorem mxf_none {g : Int → Int} (h : ∀ k, g k = -1) : ∀ (n : Nat) (k c : Int), 0 ≤ c → mxf g n k c = c
  | 0, _, _, _ => rfl
  | n + 1, k, c, hc => by
    rw [mxf_s, h k, show max c (-1) = c by omega]
    exact mxf_none h n (k + 1) c hc
def fstK (g : Int → Int) (v : Int) : Nat → Int → Int
  | 0, _ => 100
  | n + 1, k => if g k = v then k else fstK g v n (k + 1)
theorem fstK_s (g : Int → Int) (v : Int) (n : Nat) (k : Int) : fstK g v (n + 1) k = if g k = v then k else fstK g v n (k + 1) := rfl
theorem fstK_R {g : Int → Int} {v : Int} : ∀ (n : Nat) (k : Int), fstK g v n k = 100 ∨ (k ≤ fstK g v n k ∧ fstK g v n k < k + n ∧ g (fstK g v n k) = v)
  | 0, _ => Or.inl rfl
  | n + 1, k => by
    rw [fstK_s]
    split
    · rename_i c
      exact Or.inr ⟨by omega, by omega, c⟩
    · rcases fstK_R (g := g) (v := v) n (k + 1) with z | ⟨z1, z2, z3⟩
      · exact Or.inl z
      · exact Or.inr ⟨by omega, by omega, z3⟩
def gW (W : Int → Int → Int) (B : Nat → Int) (d : Int) (s : Nat) (k : Int) : Int := if W d k = -1 ∨ s.testBit k.toNat = true then -1 else W d k + B (s ||| 2 ^ k.toNat)
def bst (W : Int → Int → Int) (m : Nat) : Nat → Int → Nat → Int
  | 0, _, _ => 0
  | j + 1, d, s => mxf (gW W (bst W m j (d + 1)) d s) m 0 (bst W m j (d + 1) s)
theorem bst_0 (W : Int → Int → Int) (m : Nat) (d : Int) (s : Nat) : bst W m 0 d s = 0 := rfl
theorem bst_s (W : Int → Int → Int) (m j : Nat) (d : Int) (s : Nat) : bst W m (j + 1) d s = mxf (gW W (bst W m j (d + 1)) d s) m 0 (bst W m j (d + 1) s) := rfl
def sel (W : Int → Int → Int) (m j : Nat) (d : Int) (s : Nat) : Int := fstK (gW W (bst W m j (d + 1)) d s) (bst W m (j + 1) d s) m 0
def nxt (W : Int → Int → Int) (m j : Nat) (d : Int) (s : Nat) : Nat := if sel W m j d s = 100 then s else s ||| 2 ^ (sel W m j d s).toNat
def tkn (W : Int → Int → Int) (m n : Nat) : Nat → Nat
  | 0 => 0
  | i + 1 => nxt W m (n - i - 1) i (tkn W m n i)
theorem tkn_s (W : Int → Int → Int) (m n i : Nat) : tkn W m n (i + 1) = nxt W m (n - i - 1) i (tkn W m n i) := rfl
def chs (W : Int → Int → Int) (m n i : Nat) : Int := sel W m (n - i - 1) i (tkn W m n i)
abbrev WR (W : Int → Int → Int) : Prop := ∀ d k, -1 ≤ W d k ∧ W d k ≤ 17
theorem bst_R {W : Int → Int → Int} (h : WR W) (m : Nat) : ∀ (j : Nat) (d : Int) (s : Nat), 0 ≤ bst W m j d s ∧ bst W m j d s ≤ 17 * j
  | 0, _, _ => ⟨Int.le_refl _, Int.le_refl _⟩
  | j + 1, d, s => by
    have ih := bst_R h m j (d + 1)
    have i0 := ih s
    rw [bst_s]
    refine mxf_R (fun k => ?_) m 0 _ i0.1 (by omega)
    unfold gW
    have hk := h d k
    split
    · omega
    · have := ih (s ||| 2 ^ k.toNat)
      omega
theorem or_add : ∀ k, k < 8 → ∀ s, s < 256 → s.testBit k = false → s ||| 2 ^ k = s + 2 ^ k := by decide +kernel
theorem pc_or : ∀ k, k < 8 → ∀ s, s < 256 → pcN 25 (s ||| 2 ^ k) ≤ pcN 25 s + 1 := by decide +kernel
theorem p256 {m : Nat} (h : m ≤ 8) : 2 ^ m ≤ 256 := by
  have : (2 : Nat) ^ m ≤ 2 ^ 8 := Nat.pow_le_pow_right (by decide) h
  omega
theorem or_lt {m k s : Nat} (hk : k < m) (hs : s < 2 ^ m) : s ||| 2 ^ k < 2 ^ m := Nat.or_lt_two_pow hs (Nat.pow_lt_pow_right (by decide) hk)
theorem nxt_ok {W : Int → Int → Int} {m j : Nat} {d : Int} {s : Nat} (hm : m ≤ 8) (hs : s < 2 ^ m) : nxt W m j d s < 2 ^ m ∧ pcN 25 (nxt W m j d s) ≤ pcN 25 s + 1 := by
  have p := p256 hm
  unfold nxt
  split
  · exact ⟨hs, by omega⟩
  · rename_i c
    have r := (fstK_R (g := gW W (bst W m j (d + 1)) d s) (v := bst W m (j + 1) d s) m 0).resolve_left c
    have r1 : 0 ≤ sel W m j d s ∧ sel W m j d s < m := ⟨r.1, by have := r.2.1; unfold sel; omega⟩
    exact ⟨or_lt (by omega) hs, pc_or _ (by omega) _ (by omega)⟩
theorem tkn_ok {W : Int → Int → Int} {m n : Nat} (hm : m ≤ 8) : ∀ i, tkn W m n i < 2 ^ m ∧ pcN 25 (tkn W m n i) ≤ i
  | 0 => ⟨Nat.two_pow_pos m, by show pcN 25 0 ≤ 0; decide⟩
  | i + 1 => by
    have ih := tkn_ok (W := W) (n := n) hm i
    have := nxt_ok (W := W) (j := n - i - 1) (d := i) hm ih.1
    rw [tkn_s]
    exact ⟨this.1, by omega⟩
theorem c_X2_worthOf {d b : Nat} {Q : Option AV → AH → Prop} {h : AH} {W : Int → Int → Int} {B : Nat → Int} {x k : Nat} {s : Nat} (hx : x < 8) (hk : k < 8) (hs : s < 256) (hW : gi h 44 ((x : Int) * 8 + k) = W x k) (hR : WR W) (hB : s.testBit k = false → gi h 45 (((x : Int) + 1) * 256 + ((s ||| 2 ^ k : Nat) : Int)) = B (s ||| 2 ^ k)) (hBR : -1000000 ≤ B (s ||| 2 ^ k) ∧ B (s ||| 2 ^ k) ≤ 1000000)
    (q : Q (some (vI (gW W B x s k))) h) : WM GX d b mX2_worthOf [vR (some 43), vI x, vI k, vI s] h Q := by
  have w := hR x k
  have o := or_lt (m := 8) hk (show s < 2 ^ 8 from hs)
  have pk := or_lt (m := 8) hk (show 0 < 2 ^ 8 by decide)
  unfold gW at q
  rw [Int.toNat_natCast] at q
  refine w_X2_worthOf ⟨by omega, by omega, by omega, ?_⟩
  rw [hW, zt (by omega) (by omega), zshl_1 (by omega), zor_n (by omega) (by rw [Nat.zero_or] at pk; omega)]
  refine ⟨fun c => ?_, fun c => ⟨fun c1 => ?_, fun c1 => ?_⟩⟩
  · rw [if_pos (Or.inl c)] at q; exact q
  · rw [if_pos (Or.inr c1)] at q; exact q
  · have c2 : s.testBit k = false := by
      cases z : s.testBit k
      · rfl
      · exact absurd z c1
    rw [if_neg (fun z => z.elim c c1)] at q
    rw [hB c2]
    exact ⟨by omega, by omega, by omega, by omega, by omega, q⟩
section PX
variable {d b : Nat} {Q : Option AV → AH → Prop} {h0 : AH} {W : Int → Int → Int} {n m : Nat}
/-- the rows of sets that are laid -/
def BX (W : Int → Int → Int) (n m : Nat) (h : AH) (j : Nat) : Prop := ∀ i, i ≤ j → ∀ s, s < 2 ^ m → pcN 25 s ≤ n - i → gi h 45 (((n : Int) - i) * 256 + s) = bst W m i ((n : Int) - i) s
theorem lp_pX4 (hR : WR W) (hm : m ≤ 8) (hn : n ≤ 8) (hW : ∀ h, KX h0 h → (∀ q, gi h 44 q = gi h0 44 q) → ∀ x k : Nat, x < n → k < m → gi h 44 ((x : Int) * 8 + k) = W x k) {i : Nat} (hi : i < n) {t : Nat} (ht : t < 2 ^ m) (hp : pcN 25 t ≤ i) {h1 : AH}
    (k0 : ∀ h', KX h0 h' → (∀ q, gi h' 44 q = gi h0 44 q) → BX W n m h' n → gi h' 49 i = sel W m (n - i - 1) i t → (∀ e, e ≠ (i : Int) → gi h' 49 e = gi h1 49 e) → Lp_X2_pair_149 d b Q n m (nxt W m (n - i - 1) i t) ((i : Int) + 1) h') :
    ∀ (c k : Nat) (h : AH), k + c = m → KX h0 h → (∀ q, gi h 44 q = gi h0 44 q) → BX W n m h n → gi h 49 i = 100 → (∀ e, e ≠ (i : Int) → gi h 49 e = gi h1 49 e) → fstK (gW W (bst W m (n - i - 1) ((i : Int) + 1)) i t) (bst W m (n - i - 1 + 1) i t) c k = sel W m (n - i - 1) i t → Lp_X2_pair_183 d b Q n m t i (bst W m (n - i - 1 + 1) i t) k h
  | 0, k, h, e, K, g44, hB, h49, ho, hf => by
    have p := p256 hm
    have hs : sel W m (n - i - 1) i t = 100 := hf.symm
    have := k0 h K g44 hB (h49.trans hs.symm) ho
    unfold nxt at this
    rw [if_pos hs] at this
    exact l_X2_pair_183 ⟨fun _ => ⟨by omega, fun _ => ⟨by omega, this⟩, fun z => absurd h49 z⟩, fun z => absurd (by omega) z⟩
  | c + 1, k, h, e, K, g44, hB, h49, ho, hf => by
    have p := p256 hm
    rw [fstK_s] at hf
    refine l_X2_pair_183 ⟨fun z => by omega, fun _ => ⟨by omega, fun _ => ?_, fun z => absurd h49 z⟩⟩
    have b2 := bst_R hR m (n - i - 1) ((i : Int) + 1) (t ||| 2 ^ k)
    refine c_X2_worthOf (W := W) (B := bst W m (n - i - 1) ((i : Int) + 1)) (by omega) (by omega) (by omega) (hW h K g44 i k hi (by omega)) hR (fun tb => ?_) (by omega) ⟨_, rfl, fun z => ⟨by omega, fun h2 e2 => ⟨by omega, ?_⟩⟩, fun z => ⟨by omega, ?_⟩⟩
    · have hb := hB (n - i - 1) (by omega) (t ||| 2 ^ k) (or_lt (by omega) ht) (by have := pc_or k (by omega) t (by omega); omega)
      rw [show (n : Int) - ((n - i - 1 : Nat) : Int) = (i : Int) + 1 by omega] at hb
      exact hb
    · rw [if_pos z] at hf
      have K2 : KX h0 h2 := by rw [e2]; exact K.si (by unfold coreX; omega)
      have := k0 h2 K2 (fun q => by rw [e2, gi_o (by decide)]; exact g44 q) (fun j hj s hs hp => by rw [e2, gi_o (by decide)]; exact hB j hj s hs hp) (by rw [e2, gi_self, up1_eq]; exact hf) (fun e he => by rw [e2, gi_self, up1_ne he]; exact ho e he)
      unfold nxt at this
      rw [← hf, if_neg (by omega), Int.toNat_natCast] at this
      have g49 : gi h2 49 i = k := by rw [e2, gi_self, up1_eq]
      have pk := or_lt (m := m) (k := k) (s := 0) (by omega) (Nat.two_pow_pos m)
      rw [Nat.zero_or] at pk
      have fin : Lp_X2_pair_149 d b Q n m (zor t (zshl 1 (gi h2 49 i))) ((i : Int) + 1) h2 := by
        rw [g49, zshl_1 (by omega), zor_n (by omega) (by omega)]
        exact this
      refine l_X2_pair_183 ⟨fun _ => ⟨by omega, fun w => by omega, fun _ => ⟨by omega, by omega, fin⟩⟩, fun _ => ⟨by omega, fun w => by omega, fun _ => ⟨by omega, fun w => by omega, fun _ => ⟨by omega, by omega, fin⟩⟩⟩⟩
    · rw [if_neg z] at hf
      have := lp_pX4 hR hm hn hW hi ht hp k0 c (k + 1) h (by omega) K g44 hB h49 ho (by rw [Int.natCast_succ]; exact hf)
      rwa [Int.natCast_succ] at this
theorem lp_pX3 (hR : WR W) (hm : m ≤ 8) (hn : n ≤ 8) (hW : ∀ h, KX h0 h → (∀ q, gi h 44 q = gi h0 44 q) → ∀ x k : Nat, x < n → k < m → gi h 44 ((x : Int) * 8 + k) = W x k)
    (k0 : ∀ h', KX h0 h' → (∀ i : Nat, i < n → gi h' 49 i = chs W m n i) → Q (some (vI (bst W m n 0 0))) h') :
    ∀ (c i : Nat) (h : AH), i + c = n → KX h0 h → (∀ q, gi h 44 q = gi h0 44 q) → BX W n m h n → (∀ e : Nat, e < i → gi h 49 e = chs W m n e) → Lp_X2_pair_149 d b Q n m (tkn W m n i) i h
  | 0, i, h, e, K, g44, hB, hc => by
    refine l_X2_pair_149 ⟨fun _ => ?_, fun z => absurd (by omega) z⟩
    have hb := hB n (Nat.le_refl _) 0 (Nat.two_pow_pos m) (by rw [pcN_0]; omega)
    rw [show ((n : Int) - n) * 256 + ((0 : Nat) : Int) = 0 by omega, show (n : Int) - n = 0 by omega] at hb
    rw [hb]
    exact k0 h K (fun i' hi' => hc i' (by omega))
  | c + 1, i, h, e, K, g44, hB, hc => by
    have p := p256 hm
    have t := tkn_ok (W := W) (n := n) hm i
    refine l_X2_pair_149 ⟨fun z => by omega, fun _ => ⟨by omega, fun h1 e1 => ⟨by omega, by omega, by omega, ?_⟩⟩⟩
    have hb := hB (n - i) (by omega) (tkn W m n i) t.1 (by omega)
    rw [show (n : Int) - ((n - i : Nat) : Int) = i by omega] at hb
    rw [hb, show n - i = n - i - 1 + 1 by omega]
    refine lp_pX4 (h1 := h1) hR hm hn hW (i := i) (by omega) t.1 t.2 (fun h' K' g44' hB' h49' ho' => ?_) m 0 h1 (by omega) ?_ ?_ ?_ ?_ (fun e he => rfl) rfl
    · have hc' : ∀ e : Nat, e < i + 1 → gi h' 49 e = chs W m n e := fun e he => by
        by_cases z : e = i
        · rw [z]
          exact h49'
        · rw [ho' e (by omega), e1, gi_self, up1_ne (by omega)]
          exact hc e (by omega)
      have := lp_pX3 hR hm hn hW k0 c (i + 1) h' (by omega) K' g44' hB' hc'
      rw [tkn_s, Int.natCast_succ] at this
      exact this
    · rw [e1]
      exact K.si (by unfold coreX; omega)
    · intro q
      rw [e1, gi_o (by decide)]
      exact g44 q
    · intro j hj s hs hp
      rw [e1, gi_o (by decide)]
      exact hB j hj s hs hp
    · rw [e1, gi_self, up1_eq]
theorem lp_pX2k (hR : WR W) (hm : m ≤ 8) (hn : n ≤ 8) {j : Nat} (hj : j < n) {s : Nat} (hs : s < 2 ^ m) (hp : pcN 25 s ≤ n - j - 1) {N : Int} {h : AH} (hW : ∀ x k : Nat, x < n → k < m → gi h 44 ((x : Int) * 8 + k) = W x k) (hB : BX W n m h j)
    (k0 : Lp_X2_pair_46 d b Q n m N ((n : Int) - j - 1) ((s : Int) + 1) (si h 45 (((n : Int) - j - 1) * 256 + s) (bst W m (j + 1) ((n : Int) - j - 1) s))) :
    ∀ (c k : Nat) (v : Int), k + c = m → mxf (gW W (bst W m j ((n : Int) - j - 1 + 1)) ((n : Int) - j - 1) s) c k v = bst W m (j + 1) ((n : Int) - j - 1) s → Lp_X2_pair_86 d b Q n m N ((n : Int) - j - 1) s v k h
  | 0, k, v, e, hv => by
    have p := p256 hm
    have hv' : v = bst W m (j + 1) ((n : Int) - j - 1) s := hv
    subst hv'
    refine l_X2_pair_86 ⟨fun _ => ⟨by omega, by omega, by omega, fun h1 e1 => ⟨by omega, ?_⟩⟩, fun z => absurd (by omega) z⟩
    rw [e1]
    exact k0
  | c + 1, k, v, e, hv => by
    have p := p256 hm
    rw [mxf_s] at hv
    refine l_X2_pair_86 ⟨fun z => by omega, fun _ => ?_⟩
    have b2 := bst_R hR m j ((n : Int) - j - 1 + 1) (s ||| 2 ^ k)
    have ex : (n : Int) - j - 1 = ((n - j - 1 : Nat) : Int) := by omega
    have hv2 := lp_pX2k hR hm hn hj hs hp hW hB k0 c (k + 1) _ (by omega) hv
    rw [ex] at hv2 ⊢
    rw [ex] at b2
    refine c_X2_worthOf (W := W) (B := bst W m j (((n - j - 1 : Nat) : Int) + 1)) (by omega) (by omega) (by omega) (hW _ k (by omega) (by omega)) hR (fun tb => ?_) (by omega) ⟨_, rfl, by omega, ?_⟩
    · have hb := hB j (Nat.le_refl _) (s ||| 2 ^ k) (or_lt (by omega) hs) (by have := pc_or k (by omega) s (by omega); omega)
      rw [show (n : Int) - j = ((n - j - 1 : Nat) : Int) + 1 by omega] at hb
      exact hb
    · rwa [Int.natCast_succ] at hv2
theorem lp_pX2s (hR : WR W) (hm : m ≤ 8) (hn : n ≤ 8) (hW : ∀ h, KX h0 h → (∀ q, gi h 44 q = gi h0 44 q) → ∀ x k : Nat, x < n → k < m → gi h 44 ((x : Int) * 8 + k) = W x k) {j : Nat} (hj : j < n)
    (k0 : ∀ h', KX h0 h' → (∀ q, gi h' 44 q = gi h0 44 q) → BX W n m h' (j + 1) → Lp_X2_pair_38 d b Q n m ((2 ^ m : Nat) : Int) ((n : Int) - j - 1 + (-1)) h') :
    ∀ (c s : Nat) (h : AH), s + c = 2 ^ m → KX h0 h → (∀ q, gi h 44 q = gi h0 44 q) → BX W n m h j → (∀ s', s' < s → pcN 25 s' ≤ n - j - 1 → gi h 45 (((n : Int) - j - 1) * 256 + s') = bst W m (j + 1) ((n : Int) - j - 1) s') → Lp_X2_pair_46 d b Q n m ((2 ^ m : Nat) : Int) ((n : Int) - j - 1) s h
  | 0, s, h, e, K, g44, hB, hs' => by
    refine l_X2_pair_46 ⟨fun _ => ⟨by omega, k0 h K g44 (fun i hi s hs hp => ?_)⟩, fun z => absurd (by omega) z⟩
    by_cases z : i = j + 1
    · rw [z, show (n : Int) - ((j + 1 : Nat) : Int) = (n : Int) - j - 1 by omega]
      exact hs' s (by omega) (by omega)
    · exact hB i (by omega) s hs hp
  | c + 1, s, h, e, K, g44, hB, hs' => by
    have p := p256 hm
    refine l_X2_pair_46 ⟨fun z => by omega, fun _ => ⟨by omega, ?_⟩⟩
    rw [pcI_n]
    refine ⟨fun z => ⟨by omega, by omega, by omega, by omega, ?_⟩, fun z => ⟨by omega, ?_⟩⟩
    · have hb := hB j (Nat.le_refl _) s (by omega) (by omega)
      rw [show (n : Int) - j = (n : Int) - j - 1 + 1 by omega] at hb
      rw [hb]
      refine lp_pX2k hR hm hn hj (by omega) (by omega) (hW h K g44) hB ?_ m 0 _ (by omega) rfl
      have := lp_pX2s hR hm hn hW hj k0 c (s + 1) (si h 45 (((n : Int) - j - 1) * 256 + s) (bst W m (j + 1) ((n : Int) - j - 1) s)) (by omega) (K.si (by unfold coreX; omega)) (fun q => by rw [gi_o (by decide)]; exact g44 q) (fun i hi s' hs hp => ?_) (fun s' h1 h2 => ?_)
      · rwa [Int.natCast_succ] at this
      · rw [gi_nk (by omega)]
        exact hB i hi s' hs hp
      · by_cases w : s' = s
        · rw [w, gi_eq]
        · rw [gi_nk (by omega)]
          exact hs' s' (by omega) h2
    · have := lp_pX2s hR hm hn hW hj k0 c (s + 1) h (by omega) K g44 hB (fun s' h1 h2 => by
        by_cases w : s' = s
        · rw [w] at h2; omega
        · exact hs' s' (by omega) h2)
      rwa [Int.natCast_succ] at this
theorem lp_pX2 (hR : WR W) (hm : m ≤ 8) (hn : n ≤ 8) (hW : ∀ h, KX h0 h → (∀ q, gi h 44 q = gi h0 44 q) → ∀ x k : Nat, x < n → k < m → gi h 44 ((x : Int) * 8 + k) = W x k)
    (k0 : ∀ h', KX h0 h' → (∀ i : Nat, i < n → gi h' 49 i = chs W m n i) → Q (some (vI (bst W m n 0 0))) h') :
    ∀ (c j : Nat) (h : AH), j + c = n → KX h0 h → (∀ q, gi h 44 q = gi h0 44 q) → BX W n m h j → Lp_X2_pair_38 d b Q n m ((2 ^ m : Nat) : Int) ((n : Int) - j - 1) h
  | 0, j, h, e, K, g44, hB => by
    have ej : j = n := by omega
    subst ej
    refine l_X2_pair_38 ⟨fun _ => ?_, fun z => absurd (by omega) z⟩
    exact lp_pX3 hR hm hn hW k0 j 0 h (by omega) K g44 hB (fun e he => by omega)
  | c + 1, j, h, e, K, g44, hB => by
    refine l_X2_pair_38 ⟨fun z => by omega, fun _ => ?_⟩
    refine lp_pX2s hR hm hn hW (j := j) (by omega) (fun h' K' g' hB' => ?_) (2 ^ m) 0 h (by omega) K g44 hB (fun s' h1 => by omega)
    have := lp_pX2 hR hm hn hW k0 c (j + 1) h' (by omega) K' g' hB'
    rwa [show (n : Int) - ((j + 1 : Nat) : Int) - 1 = (n : Int) - j - 1 + (-1) by omega] at this
theorem lp_pX1 (hm : m ≤ 8) (hn : n ≤ 8) (k0 : ∀ h', KX h0 h' → (∀ q, gi h' 44 q = gi h0 44 q) → BX W n m h' 0 → Lp_X2_pair_38 d b Q n m ((2 ^ m : Nat) : Int) ((n : Int) - 1) h') :
    ∀ (c s : Nat) (h : AH), s + c = 2 ^ m → KX h0 h → (∀ q, gi h 44 q = gi h0 44 q) → (∀ s', s' < s → gi h 45 ((n : Int) * 256 + ((s' : Nat) : Int)) = 0) → Lp_X2_pair_7 d b Q n m ((2 ^ m : Nat) : Int) s h
  | 0, s, h, e, K, g44, hz => by
    refine l_X2_pair_7 ⟨fun _ => ⟨by omega, k0 h K g44 (fun i hi s' hs hp => ?_)⟩, fun z => absurd (by omega) z⟩
    have i0 : i = 0 := by omega
    subst i0
    rw [show (n : Int) - ((0 : Nat) : Int) = n by omega]
    exact hz s' (by omega)
  | c + 1, s, h, e, K, g44, hz => by
    have p := p256 hm
    refine l_X2_pair_7 ⟨fun z => by omega, fun _ => ⟨by omega, by omega, by omega, fun h1 e1 => ⟨by omega, ?_⟩⟩⟩
    have hz' : ∀ s' : Nat, s' < s + 1 → gi h1 45 ((n : Int) * 256 + ((s' : Nat) : Int)) = 0 := fun s' h2 => by
      by_cases w : s' = s
      · rw [w, e1, gi_eq]
      · rw [e1, gi_nk (by omega)]
        exact hz s' (by omega)
    have := lp_pX1 hm hn k0 c (s + 1) h1 (by omega) (by rw [e1]; exact K.si (by unfold coreX; omega)) (fun q => by rw [e1, gi_o (by decide)]; exact g44 q) hz'
    rwa [Int.natCast_succ] at this
end PX
theorem c_X2_pair {d b : Nat} {Q : Option AV → AH → Prop} {h : AH} {W : Int → Int → Int} {n m : Nat} (hR : WR W) (hm : m ≤ 8) (hn : n ≤ 8) (hW : ∀ x k : Nat, x < n → k < m → gi h 44 ((x : Int) * 8 + k) = W x k)
    (k0 : ∀ h', KX h h' → (∀ i : Nat, i < n → gi h' 49 i = chs W m n i) → Q (some (vI (bst W m n 0 0))) h') : WM GX (d + 1) b mX2_pair [vR (some 43), vI n, vI m] h Q := by
  refine w_X2_pair ?_
  rw [zshl_1 (by omega)]
  refine lp_pX1 (h0 := h) (W := W) hm hn (fun h' K g44 hB => ?_) (2 ^ m) 0 h (by omega) KX.rfl' (fun _ => rfl) (fun s' h1 => by omega)
  have := lp_pX2 (d := d) (b := b) (Q := Q) (h0 := h) hR hm hn (fun h2 K2 g2 x k hx hk => by rw [g2]; exact hW x k hx hk) k0 n 0 h' (by omega) K g44 hB
  rwa [show (n : Int) - ((0 : Nat) : Int) - 1 = (n : Int) - 1 by omega] at this
