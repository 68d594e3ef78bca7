/-! the languages' code, piece by piece: what a piece means in the class (XS) and in the reference (MM) -/
abbrev Vl : Type := (Int → Int) → Option Int
def vLf (fi : Int → Int → Int) (o a : Int) : Vl := fun F => some (if o = 0 then a else F (fi o a))
def vBin (o : Int) (x y : Vl) : Vl := fun F => match x F with
  | none => none
  | some a => match y F with
    | none => none
    | some b => mRe o a b
def vNot (x : Vl) : Vl := fun F => match x F with
  | none => none
  | some a => some (1 - a)
def vJmp (w : Int) (x y : Vl) : Vl := fun F => match x F with
  | none => none
  | some a => if a = w then some a else y F
theorem vNot_not (x : Vl) : vNot (vNot x) = x := by
  funext F
  unfold vNot
  cases e : x F with
  | none => rfl
  | some a =>
    show some (1 - (1 - a)) = some a
    rw [show 1 - (1 - a) = a by omega]
/-- words that a text of its kind may ask -/
abbrev okF (m i : Int) : Prop := 0 ≤ i ∧ i ≤ m ∧ (m ≠ 37 ∨ i = 9 ∨ 11 ≤ i)
abbrev okA (m o a : Int) : Prop := (-1000000000 ≤ a ∧ a ≤ 1000000000) ∧ (m ≠ 37 ∨ o < 5 ∨ (0 ≤ a ∧ a ≤ 7))
def EnvOk (m : Int) (F : Int → Int) : Prop := ∀ i, okF m i → -1000000000 ≤ F i ∧ F i ≤ 1000000000
def VB (m : Int) (x : Vl) : Prop := ∀ F, EnvOk m F → ∀ v, x F = some v → -1000000000 ≤ v ∧ v ≤ 1000000000
def T01 (m : Int) (x : Vl) : Prop := ∀ F, EnvOk m F → ∀ v, x F = some v → v = 0 ∨ v = 1
theorem mRe_bd {o a b v : Int} (h : mRe o a b = some v) : -1000000000 ≤ v ∧ v ≤ 1000000000 := by
  unfold mRe at h
  dsimp only at h
  split at h
  · cases h
  · split at h
    · cases h
      assumption
    · cases h
theorem VB.bin {m o : Int} {x y : Vl} : VB m (vBin o x y) := by
  intro F hF v h
  unfold vBin at h
  split at h
  · cases h
  · split at h
    · cases h
    · exact mRe_bd h
theorem VB.of01 {m : Int} {x : Vl} (h : T01 m x) : VB m x := fun F hF v e => by
  rcases h F hF v e with z | z <;> omega
theorem T01.cmp {m o : Int} {x y : Vl} (ho : 25 ≤ o ∧ o ≤ 27) : T01 m (vBin o x y) := by
  intro F hF v h
  unfold vBin at h
  split at h
  · cases h
  · split at h
    · cases h
    · rename_i a _ _ b _
      have q : ∀ p : Prop, ∀ _ : Decidable p, (if -1000000000 ≤ b2i p ∧ b2i p ≤ 1000000000 then some (b2i p) else none) = some v → v = 0 ∨ v = 1 := fun p _ e => by
        split at e
        · cases e
          exact (b2i_01 p)
        · cases e
      unfold mRe at h
      have c : o = 25 ∨ o = 26 ∨ o = 27 := by omega
      rcases c with c | c | c <;> subst c
      · exact q (a < b) _ h
      · exact q (b < a) _ h
      · exact q (a = b) _ h
theorem T01.not {m : Int} {x : Vl} (h : T01 m x) : T01 m (vNot x) := by
  intro F hF v e
  unfold vNot at e
  split at e
  · cases e
  · rename_i a ea
    cases e
    rcases h F hF a ea with z | z <;> omega
theorem T01.jmp {m w : Int} {x y : Vl} (hx : T01 m x) (hy : T01 m y) : T01 m (vJmp w x y) := by
  intro F hF v e
  unfold vJmp at e
  split at e
  · cases e
  · rename_i a ea
    split at e
    · cases e
      exact hx F hF _ ea
    · exact hy F hF v e
/-! the reference's -/
def lfM (fi : Int → Int → Int) (op arg F : Int → Int) : Int → Int := fun k => if op k = 0 then arg k else F (fi (op k) (arg k))
def lim (m : Int) : Int := if m = 10 then 11 else 7
theorem lim_R (m : Int) : 7 ≤ lim m ∧ lim m ≤ 11 := by
  unfold lim
  split <;> omega
def MM (fi : Int → Int → Int) (m : Int) (op arg : Int → Int) (k n : Int) (val : Vl) : Prop :=
  0 ≤ k ∧ k < n ∧ (∀ x, k ≤ x → x < n → 0 ≤ op x ∧ op x ≤ 30 ∧ (op x < 20 → op x ≤ lim m ∧ okA m (op x) (arg x))) ∧ ∀ op' arg' : Int → Int, (∀ x, k ≤ x → x < n → op' x = op x ∧ arg' x = arg x) → ∀ F, EnvOk m F → ∀ (last : Int) (st : List Int) (f : Nat), n ≤ last → n - k ≤ f →
    (val F = none ∧ mEv op' arg' (lfM fi op' arg' F) last f k st = some none) ∨ ∃ v f', val F = some v ∧ (f : Int) ≤ (f' : Nat) + (n - k) ∧ mEv op' arg' (lfM fi op' arg' F) last f k st = mEv op' arg' (lfM fi op' arg' F) last f' n (v :: st)
section MEV
variable {op arg leaf : Int → Int} {last : Int} {n : Nat} {k a b : Int} {st r : List Int}
theorem mEv_leaf (h0 : ¬ k < 0) (h1 : k < last) (h : op k < 20) : mEv op arg leaf last (n + 1) k st = mEv op arg leaf last n (k + 1) (leaf k :: st) := by
  conv => lhs; unfold mEv
  rw [if_neg h0, if_pos h1, if_pos h]
theorem mEv_bin (h0 : ¬ k < 0) (h1 : k < last) (h2 : ¬ op k < 20) (h : op k < 28) : mEv op arg leaf last (n + 1) k (b :: a :: r) = (match mRe (op k) a b with
  | none => some none
  | some v => mEv op arg leaf last n (k + 1) (v :: r)) := by
  conv => lhs; unfold mEv
  exact (if_neg h0).trans ((if_pos h1).trans ((if_neg h2).trans ((if_pos h).trans rfl)))
theorem mEv_not (h0 : ¬ k < 0) (h1 : k < last) (h : op k = 28) : mEv op arg leaf last (n + 1) k (a :: r) = mEv op arg leaf last n (k + 1) ((1 - a) :: r) := by
  conv => lhs; unfold mEv
  rw [if_neg h0, if_pos h1, if_neg (by omega), if_neg (by omega), if_pos h]
theorem mEv_jmp (h0 : ¬ k < 0) (h1 : k < last) (h : 28 < op k) : mEv op arg leaf last (n + 1) k (a :: r) = if a = (if op k = 29 then 0 else 1) then mEv op arg leaf last n (arg k) (a :: r) else mEv op arg leaf last n (k + 1) r := by
  conv => lhs; unfold mEv
  rw [if_neg h0, if_pos h1, if_neg (by omega), if_neg (by omega), if_neg (by omega)]
end MEV
section XEV
variable {s F : Int → Int} {len f a b : Int} {n : Nat} {st r : List Int}
theorem xEv_leaf (h0 : 0 ≤ f ∧ f + 1 < len) (h1 : s f = 1 ∨ s f = 2) (h2 : ¬ (100 ≤ st.length ∨ (s f = 2 ∧ (s (f + 1) < 0 ∨ 38 ≤ s (f + 1))))) : xEv s F len (n + 1) f st = xEv s F len n (f + 2) ((if s f = 1 then s (f + 1) else F (s (f + 1))) :: st) := by
  conv => lhs; unfold xEv
  rw [if_pos h0]
  dsimp only
  rw [if_pos h1, if_neg h2]
theorem xEv_stop (h0 : 0 ≤ f ∧ f + 1 < len) (h1 : s f = 0) : xEv s F len (n + 1) f (a :: r) = a := by
  conv => lhs; unfold xEv
  rw [if_pos h0]
  dsimp only
  rw [if_neg (by omega), if_pos h1]
theorem xEv_not (h0 : 0 ≤ f ∧ f + 1 < len) (h1 : s f = 3) : xEv s F len (n + 1) f (a :: r) = xEv s F len n (f + 2) ((1 - a) :: r) := by
  conv => lhs; unfold xEv
  rw [if_pos h0]
  dsimp only
  rw [if_neg (by omega), if_neg (by omega), if_pos h1]
theorem xEv_jmp (h0 : 0 ≤ f ∧ f + 1 < len) (h1 : s f = 4 ∨ s f = 5) : xEv s F len (n + 1) f (a :: r) = if a = (if s f = 4 then 1 else 0) then xEv s F len n (s (f + 1)) (a :: r) else xEv s F len n (f + 2) r := by
  conv => lhs; unfold xEv
  rw [if_pos h0]
  dsimp only
  rw [if_neg (by omega), if_neg (by omega), if_neg (by omega), if_pos h1]
theorem xEv_bin (h0 : 0 ≤ f ∧ f + 1 < len) (h1 : 6 ≤ s f) : xEv s F len (n + 1) f (a :: b :: r) = if xJo (s f) b a = xBr then xBr else xEv s F len n (f + 2) (xJo (s f) b a :: r) := by
  conv => lhs; unfold xEv
  rw [if_pos h0]
  dsimp only
  rw [if_neg (by omega), if_neg (by omega), if_neg (by omega), if_neg (by omega)]
end XEV
section PIECES
variable {fi : Int → Int → Int} {m : Int} {op arg : Int → Int} {k n n2 o a : Int} {x y : Vl}
theorem MM.congr {op' arg' : Int → Int} (H : MM fi m op arg k n x) (e : ∀ x, k ≤ x → x < n → op' x = op x ∧ arg' x = arg x) : MM fi m op' arg' k n x :=
  ⟨H.1, H.2.1, fun z z0 z1 => by rw [(e z z0 z1).1, (e z z0 z1).2]; exact H.2.2.1 z z0 z1, fun op2 arg2 e2 => H.2.2.2 op2 arg2 (fun z z0 z1 => ⟨(e2 z z0 z1).1.trans (e z z0 z1).1, (e2 z z0 z1).2.trans (e z z0 z1).2⟩)⟩
theorem MM.leaf (hk : 0 ≤ k) (ho : op k = o) (ha : arg k = a) (h20 : 0 ≤ o ∧ o ≤ lim m) (hb : okA m o a) : MM fi m op arg k (k + 1) (vLf fi o a) := by
  have lr := lim_R m
  refine ⟨hk, by omega, fun z z0 z1 => ?_, fun op' arg' e F hF last st f hl hf => Or.inr ?_⟩
  · have : z = k := by omega
    subst this
    rw [ho, ha]
    omega
  match f, hf with
  | 0, hf => omega
  | f + 1, hf =>
    have e1 : op' k = o := (e k (by omega) (by omega)).1.trans ho
    have e2 : arg' k = a := (e k (by omega) (by omega)).2.trans ha
    refine ⟨_, f, rfl, by omega, ?_⟩
    rw [mEv_leaf (by omega) (by omega) (by omega)]
    unfold lfM
    rw [e1, e2]
theorem MM.bin (H1 : MM fi m op arg k n x) (H2 : MM fi m op arg n n2 y) (ho : op n2 = o) (h : 20 ≤ o ∧ o < 28) : MM fi m op arg k (n2 + 1) (vBin o x y) := by
  obtain ⟨a0, a1, a2, a3⟩ := H1
  obtain ⟨b0, b1, b2, b3⟩ := H2
  refine ⟨a0, by omega, fun z z0 z1 => ?_, fun op' arg' e F hF last st f hl hf => ?_⟩
  · rcases Int.lt_or_le z n with c | c
    · exact a2 z z0 c
    · rcases Int.lt_or_le z n2 with c2 | c2
      · exact b2 z c c2
      · have : z = n2 := by omega
        subst this
        rw [ho]
        omega
  · unfold vBin
    rcases a3 op' arg' (fun z z0 z1 => e z z0 (by omega)) F hF last st f (by omega) (by omega) with ⟨u1, u2⟩ | ⟨v, f1, u1, u2, u3⟩
    · rw [u1, u2]
      exact Or.inl ⟨rfl, rfl⟩
    rw [u3, u1]
    dsimp only
    rcases b3 op' arg' (fun z z0 z1 => e z (by omega) (by omega)) F hF last (v :: st) f1 (by omega) (by omega) with ⟨w1, w2⟩ | ⟨w, f2, w1, w2, w3⟩
    · rw [w1, w2]
      exact Or.inl ⟨rfl, rfl⟩
    rw [w3, w1]
    dsimp only
    match f2, w2 with
    | 0, w2 => omega
    | f2 + 1, w2 =>
      have e1 : op' n2 = o := (e n2 (by omega) (by omega)).1.trans ho
      rw [mEv_bin (by omega) (by omega) (by omega) (by omega), e1]
      cases mRe o v w with
      | none => exact Or.inl ⟨rfl, rfl⟩
      | some r => exact Or.inr ⟨r, f2, rfl, by omega, rfl⟩
theorem MM.not (H1 : MM fi m op arg k n x) (ho : op n = 28) : MM fi m op arg k (n + 1) (vNot x) := by
  obtain ⟨a0, a1, a2, a3⟩ := H1
  refine ⟨a0, by omega, fun z z0 z1 => ?_, fun op' arg' e F hF last st f hl hf => ?_⟩
  · rcases Int.lt_or_le z n with c | c
    · exact a2 z z0 c
    · have : z = n := by omega
      subst this
      rw [ho]
      omega
  · unfold vNot
    rcases a3 op' arg' (fun z z0 z1 => e z z0 (by omega)) F hF last st f (by omega) (by omega) with ⟨u1, u2⟩ | ⟨v, f1, u1, u2, u3⟩
    · rw [u1, u2]
      exact Or.inl ⟨rfl, rfl⟩
    rw [u3, u1]
    match f1, u2 with
    | 0, w2 => omega
    | f1 + 1, w2 =>
      have e1 : op' n = 28 := (e n (by omega) (by omega)).1.trans ho
      rw [mEv_not (by omega) (by omega) e1]
      exact Or.inr ⟨_, f1, rfl, by omega, rfl⟩
theorem MM.jmp (H1 : MM fi m op arg k n x) (H2 : MM fi m op arg (n + 1) n2 y) (ho : op n = 29 ∨ op n = 30) (ha : arg n = n2) : MM fi m op arg k n2 (vJmp (if op n = 29 then 0 else 1) x y) := by
  obtain ⟨a0, a1, a2, a3⟩ := H1
  obtain ⟨b0, b1, b2, b3⟩ := H2
  refine ⟨a0, by omega, fun z z0 z1 => ?_, fun op' arg' e F hF last st f hl hf => ?_⟩
  · rcases Int.lt_or_le z n with c | c
    · exact a2 z z0 c
    · rcases Int.lt_or_le z (n + 1) with c2 | c2
      · have : z = n := by omega
        subst this
        omega
      · exact b2 z c2 z1
  · unfold vJmp
    rcases a3 op' arg' (fun z z0 z1 => e z z0 (by omega)) F hF last st f (by omega) (by omega) with ⟨u1, u2⟩ | ⟨v, f1, u1, u2, u3⟩
    · rw [u1, u2]
      exact Or.inl ⟨rfl, rfl⟩
    rw [u3, u1]
    match f1, u2 with
    | 0, w2 => omega
    | f1 + 1, w2 =>
      have e1 : op' n = op n := (e n (by omega) (by omega)).1
      have e2 : arg' n = n2 := (e n (by omega) (by omega)).2.trans ha
      rw [mEv_jmp (by omega) (by omega) (by omega), e1, e2]
      dsimp only
      by_cases c : v = (if op n = 29 then 0 else 1)
      · rw [if_pos c, if_pos c]
        exact Or.inr ⟨v, f1, rfl, by omega, rfl⟩
      · rw [if_neg c, if_neg c]
        rcases b3 op' arg' (fun z z0 z1 => e z (by omega) (by omega)) F hF last st f1 (by omega) (by omega) with ⟨w1, w2⟩ | ⟨w, f2, w1, w2, w3⟩
        · rw [w1, w2]
          exact Or.inl ⟨rfl, rfl⟩
        · exact Or.inr ⟨w, f2, w1, by omega, w3⟩
/-! the class's -/
def WfR (m : Int) (steps : Int → Int) (f g : Int) : Prop := ∀ i, f ≤ 2 * i → 2 * i + 1 < g → (-1000000000 ≤ steps (2 * i + 1) ∧ steps (2 * i + 1) ≤ 1000000000) ∧ (steps (2 * i) = 2 → okF m (steps (2 * i + 1))) ∧ (steps (2 * i) = 4 ∨ steps (2 * i) = 5 → steps (2 * i + 1) % 2 = 0)
def XS (m : Int) (s : Int → Int) (f g : Int) (D : Int) (val : Vl) : Prop :=
  (0 ≤ f ∧ f < g ∧ f % 2 = 0 ∧ g % 2 = 0 ∧ 1 ≤ D) ∧ WfR m s f g ∧ ∀ s' : Int → Int, (∀ x, f ≤ x → x < g → s' x = s x) → ∀ F, EnvOk m F → ∀ (len : Int) (st : List Int) (fu : Nat), g ≤ len → (st.length : Int) + D ≤ 100 → g - f ≤ 2 * fu →
    (val F = none ∧ xEv s' F len fu f st = xBr) ∨ ∃ v fu', val F = some v ∧ 2 * (fu : Int) ≤ 2 * (fu' : Nat) + (g - f) ∧ xEv s' F len fu f st = xEv s' F len fu' g (v :: st)
variable {s : Int → Int} {f g f2 D E : Int}
theorem XS.congr {s' : Int → Int} (H : XS m s f g D x) (e : ∀ x, f ≤ x → x < g → s' x = s x) : XS m s' f g D x :=
  ⟨H.1, fun i i0 i1 => by rw [e _ (by omega) (by omega), e _ i0 (by omega)]; exact H.2.1 i i0 i1, fun s2 e2 => H.2.2 s2 (fun z z0 z1 => (e2 z z0 z1).trans (e z z0 z1))⟩
theorem XS.leaf (hf : 0 ≤ f ∧ f % 2 = 0) (hm : m ≤ 37) (h : (s f = 1 ∧ s (f + 1) = a ∧ o = 0 ∧ -1000000000 ≤ a ∧ a ≤ 1000000000) ∨ (s f = 2 ∧ s (f + 1) = fi o a ∧ o ≠ 0 ∧ okF m (fi o a))) : XS m s f (f + 2) 1 (vLf fi o a) := by
  refine ⟨by omega, fun i i0 i1 => ?_, fun s' e F hF len st fu hl hs hfu => Or.inr ?_⟩
  · have : 2 * i = f := by omega
    rw [this]
    omega
  match fu, hfu with
  | 0, hfu => omega
  | fu + 1, hfu =>
    have e1 := e f (by omega) (by omega)
    have e2 := e (f + 1) (by omega) (by omega)
    refine ⟨_, fu, rfl, by omega, ?_⟩
    rw [xEv_leaf (by omega) (by omega) (by omega), e1, e2]
    rcases h with ⟨h1, h2, h3, h4⟩ | ⟨h1, h2, h3, h4⟩
    · rw [h1, h2, if_pos rfl, if_pos h3]
    · rw [h1, h2, if_neg (by decide), if_neg h3]
def sgO (o : Int) : Int := if o = 20 then 43 else if o = 21 then 45 else if o = 22 then 42 else if o = 23 then 47 else if o = 24 then 37 else if o = 25 then 60 else if o = 26 then 62 else 61
theorem sgO_xJo {o a b : Int} (h : 20 ≤ o ∧ o < 28) : (mRe o a b = none ∧ xJo (sgO o) a b = xBr) ∨ ∃ v, mRe o a b = some v ∧ xJo (sgO o) a b = v ∧ v ≠ xBr := by
  have fin : ∀ v : Int, (∀ r, (if -1000000000 ≤ v ∧ v ≤ 1000000000 then some v else none) = r → ∀ r', (if v < -1000000000 ∨ 1000000000 < v then xBr else v) = r' → (r = none ∧ r' = xBr) ∨ ∃ w, r = some w ∧ r' = w ∧ w ≠ xBr) := fun v r hr r' hr' => by
    by_cases c : -1000000000 ≤ v ∧ v ≤ 1000000000
    · rw [if_pos c] at hr
      rw [if_neg (by omega)] at hr'
      refine Or.inr ⟨v, hr.symm, hr'.symm, ?_⟩
      unfold xBr
      omega
    · rw [if_neg c] at hr
      rw [if_pos (by omega)] at hr'
      exact Or.inl ⟨hr.symm, hr'.symm⟩
  have c : o = 20 ∨ o = 21 ∨ o = 22 ∨ o = 23 ∨ o = 24 ∨ o = 25 ∨ o = 26 ∨ o = 27 := by omega
  rcases c with c | c | c | c | c | c | c | c <;> subst c
  · exact fin (a + b) _ rfl _ rfl
  · exact fin (a - b) _ rfl _ rfl
  · exact fin (a * b) _ rfl _ rfl
  · by_cases z : b = 0
    · subst z
      exact Or.inl ⟨rfl, rfl⟩
    · refine fin (a.tdiv b) _ ?_ _ ?_
      · simp only [mRe, Int.reduceEq, ↓reduceIte, if_neg z]
      · simp only [sgO, xJo, Int.reduceEq, ↓reduceIte, if_neg z]
  · by_cases z : b = 0
    · subst z
      exact Or.inl ⟨rfl, rfl⟩
    · refine fin (a.tmod b) _ ?_ _ ?_
      · simp only [mRe, Int.reduceEq, ↓reduceIte, if_neg z]
      · simp only [sgO, xJo, Int.reduceEq, ↓reduceIte, if_neg z]
  · exact fin (b2i (a < b)) _ rfl _ rfl
  · exact fin (b2i (b < a)) _ rfl _ rfl
  · exact fin (b2i (a = b)) _ rfl _ rfl
theorem sgO_R {o : Int} (h : 20 ≤ o ∧ o < 28) : 37 ≤ sgO o ∧ sgO o ≤ 62 := by
  have c : o = 20 ∨ o = 21 ∨ o = 22 ∨ o = 23 ∨ o = 24 ∨ o = 25 ∨ o = 26 ∨ o = 27 := by omega
  rcases c with c | c | c | c | c | c | c | c <;> subst c <;> decide
theorem WfR.app {m : Int} {s : Int → Int} {f g e : Int} (h : WfR m s f g) (h2 : WfR m s g e) (hg : g % 2 = 0) : WfR m s f e := fun i i0 i1 => by
  by_cases c : 2 * i + 1 < g
  · exact h i i0 c
  · exact h2 i (by omega) i1
theorem XS.bin (H1 : XS m s f g D x) (H2 : XS m s g f2 E y) (hs : s f2 = sgO o) (hv : s (f2 + 1) = 0) (h : 20 ≤ o ∧ o < 28) : XS m s f (f2 + 2) (D + E) (vBin o x y) := by
  obtain ⟨a0, a1, a2⟩ := H1
  obtain ⟨b0, b1, b2⟩ := H2
  have so := sgO_R h
  refine ⟨by omega, (a1.app b1 (by omega)).app (fun i i0 i1 => ?_) (by omega), fun s' e F hF len st fu hl hst hfu => ?_⟩
  · have : 2 * i = f2 := by omega
    rw [this, hs, hv]
    omega
  · unfold vBin
    rcases a2 s' (fun z z0 z1 => e z z0 (by omega)) F hF len st fu (by omega) (by omega) (by omega) with ⟨u1, u2⟩ | ⟨v, f1, u1, u2, u3⟩
    · rw [u1, u2]
      exact Or.inl ⟨rfl, rfl⟩
    rw [u3, u1]
    dsimp only
    rcases b2 s' (fun z z0 z1 => e z (by omega) (by omega)) F hF len (v :: st) f1 (by omega) (by rw [List.length_cons]; omega) (by omega) with ⟨w1, w2⟩ | ⟨w, f3, w1, w2, w3⟩
    · rw [w1, w2]
      exact Or.inl ⟨rfl, rfl⟩
    rw [w3, w1]
    dsimp only
    match f3, w2 with
    | 0, w2 => omega
    | f3 + 1, w2 =>
      have e1 : s' f2 = sgO o := (e f2 (by omega) (by omega)).trans hs
      rw [xEv_bin (by omega) (by omega), e1]
      rcases sgO_xJo (a := v) (b := w) h with ⟨r1, r2⟩ | ⟨r, r1, r2, r3⟩
      · rw [r1, r2, if_pos rfl]
        exact Or.inl ⟨rfl, rfl⟩
      · rw [r1, r2, if_neg r3]
        exact Or.inr ⟨r, f3, rfl, by omega, rfl⟩
theorem XS.not (H1 : XS m s f g D x) (hs : s g = 3) (hv : s (g + 1) = 0) : XS m s f (g + 2) D (vNot x) := by
  obtain ⟨a0, a1, a2⟩ := H1
  refine ⟨by omega, a1.app (fun i i0 i1 => ?_) (by omega), fun s' e F hF len st fu hl hst hfu => ?_⟩
  · have : 2 * i = g := by omega
    rw [this, hs, hv]
    omega
  · unfold vNot
    rcases a2 s' (fun z z0 z1 => e z z0 (by omega)) F hF len st fu (by omega) (by omega) (by omega) with ⟨u1, u2⟩ | ⟨v, f1, u1, u2, u3⟩
    · rw [u1, u2]
      exact Or.inl ⟨rfl, rfl⟩
    rw [u3, u1]
    match f1, u2 with
    | 0, w2 => omega
    | f1 + 1, w2 =>
      have e1 : s' g = 3 := (e g (by omega) (by omega)).trans hs
      rw [xEv_not (by omega) e1]
      exact Or.inr ⟨_, f1, rfl, by omega, rfl⟩
theorem XS.jmp {o : Int} (H1 : XS m s f g D x) (H2 : XS m s (g + 2) f2 E y) (hs : s g = if o = 29 then 5 else 4) (hv : s (g + 1) = f2) (hb : f2 ≤ 1000000000) : XS m s f f2 (D + E) (vJmp (if o = 29 then 0 else 1) x y) := by
  obtain ⟨a0, a1, a2⟩ := H1
  obtain ⟨b0, b1, b2⟩ := H2
  have so : (o = 29 ∧ s g = 5) ∨ (o ≠ 29 ∧ s g = 4) := by
    by_cases c : o = 29
    · exact Or.inl ⟨c, hs.trans (if_pos c)⟩
    · exact Or.inr ⟨c, hs.trans (if_neg c)⟩
  clear hs
  refine ⟨by omega, a1.app (WfR.app (g := g + 2) (fun i i0 i1 => ?_) b1 (by omega)) (by omega), fun s' e F hF len st fu hl hst hfu => ?_⟩
  · have : 2 * i = g := by omega
    rw [this, hv]
    omega
  · unfold vJmp
    rcases a2 s' (fun z z0 z1 => e z z0 (by omega)) F hF len st fu (by omega) (by omega) (by omega) with ⟨u1, u2⟩ | ⟨v, f1, u1, u2, u3⟩
    · rw [u1, u2]
      exact Or.inl ⟨rfl, rfl⟩
    rw [u3, u1]
    match f1, u2 with
    | 0, w2 => omega
    | f1 + 1, w2 =>
      have e1 := e g (by omega) (by omega)
      have e2 : s' (g + 1) = f2 := (e (g + 1) (by omega) (by omega)).trans hv
      have b3 := b2 s' (fun z z0 z1 => e z (by omega) (by omega)) F hF len st f1 (by omega) (by omega) (by omega)
      rw [xEv_jmp (by omega) (by rw [e1]; clear b3 e; omega), e1, e2]
      dsimp only
      rcases so with ⟨so, s1⟩ | ⟨so, s1⟩
      · rw [s1, if_neg (show ¬ ((5 : Int) = 4) by decide), if_pos so]
        by_cases c : v = 0
        · rw [if_pos c, if_pos c]
          exact Or.inr ⟨v, f1, rfl, by omega, rfl⟩
        · rw [if_neg c, if_neg c]
          rcases b3 with ⟨w1, w2⟩ | ⟨w, f4, w1, w2, w3⟩
          · rw [w1, w2]
            exact Or.inl ⟨rfl, rfl⟩
          · exact Or.inr ⟨w, f4, w1, by omega, w3⟩
      · rw [s1, if_pos rfl, if_neg so]
        by_cases c : v = 1
        · rw [if_pos c, if_pos c]
          exact Or.inr ⟨v, f1, rfl, by omega, rfl⟩
        · rw [if_neg c, if_neg c]
          rcases b3 with ⟨w1, w2⟩ | ⟨w, f4, w1, w2, w3⟩
          · rw [w1, w2]
            exact Or.inl ⟨rfl, rfl⟩
          · exact Or.inr ⟨w, f4, w1, by omega, w3⟩
theorem XS.D' (H : XS m s f g D x) {E : Int} (h : D ≤ E) : XS m s f g E x := ⟨by have := H.1; omega, H.2.1, fun s' e F hF len st fu h1 h2 h3 => H.2.2 s' e F hF len st fu h1 (by omega) h3⟩
end PIECES
