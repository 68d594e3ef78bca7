/-! WHAT THE TWO SIDES HOLD: the relation of the class's heap (hX) and the reference's (hM) between calls -/
/-- where place k of the reference's row stands in an isle: which array (0: the isle's own fields), which place -/
def la (k : Int) : Nat := if k < 7 then 0 else if k < 15 then 6 else if k < 23 then 7 else if k < 31 then 8 else if k < 64 then 9 else if k < 72 then 1 else if k < 80 then 2 else if k < 88 then 3 else if k < 96 then 4 else if k < 104 then 5 else if k < 129 then 10 else 11
def lb (k : Int) : Int := if k < 7 then (if k = 0 then 0 else if k = 1 then 2 else if k = 2 then 12 else if k = 3 then 16 else if k = 4 then 18 else if k = 5 then 14 else 15) else if k < 15 then k - 7 else if k < 23 then k - 15 else if k < 31 then k - 23 else if k < 64 then k - 39 else if k < 72 then k - 64 else if k < 80 then k - 72 else if k < 88 then k - 80 else if k < 96 then k - 88 else if k < 104 then k - 96 else if k < 129 then k - 104 else k - 129
/-- places that the isle holds too -/
def okP (k : Int) : Prop := (0 ≤ k ∧ k < 31) ∨ (39 ≤ k ∧ k < 137)
def RIs (hX : AH) (o : Nat) (r : Int → Int) : Prop := ∀ k, okP k → r k = gi hX (o + la k) (lb k)
def linv (c : Nat) (i : Int) : Int := if c = 0 then (if i = 0 then 0 else if i = 2 then 1 else if i = 12 then 2 else if i = 16 then 3 else if i = 18 then 4 else if i = 14 then 5 else 6) else if c = 6 then i + 7 else if c = 7 then i + 15 else if c = 8 then i + 23 else if c = 9 then i + 39 else if c = 1 then i + 64 else if c = 2 then i + 72 else if c = 3 then i + 80 else if c = 4 then i + 88 else if c = 5 then i + 96 else if c = 10 then i + 104 else i + 129
theorem linv_ok {k : Int} (hk : okP k) : linv (la k) (lb k) = k := by
  unfold okP at hk
  unfold la lb
  by_cases h1 : k < 7
  · rw [if_pos h1, if_pos h1]
    have : k = 0 ∨ k = 1 ∨ k = 2 ∨ k = 3 ∨ k = 4 ∨ k = 5 ∨ k = 6 := by omega
    rcases this with e | e | e | e | e | e | e <;> subst e <;> rfl
  rw [if_neg h1, if_neg h1]
  by_cases h15 : k < 15
  · rw [if_pos h15, if_pos h15]
    unfold linv
    simp
  rw [if_neg h15, if_neg h15]
  by_cases h23 : k < 23
  · rw [if_pos h23, if_pos h23]
    unfold linv
    simp
  rw [if_neg h23, if_neg h23]
  by_cases h31 : k < 31
  · rw [if_pos h31, if_pos h31]
    unfold linv
    simp
  rw [if_neg h31, if_neg h31]
  by_cases h64 : k < 64
  · rw [if_pos h64, if_pos h64]
    unfold linv
    simp
  rw [if_neg h64, if_neg h64]
  by_cases h72 : k < 72
  · rw [if_pos h72, if_pos h72]
    unfold linv
    simp
  rw [if_neg h72, if_neg h72]
  by_cases h80 : k < 80
  · rw [if_pos h80, if_pos h80]
    unfold linv
    simp
  rw [if_neg h80, if_neg h80]
  by_cases h88 : k < 88
  · rw [if_pos h88, if_pos h88]
    unfold linv
    simp
  rw [if_neg h88, if_neg h88]
  by_cases h96 : k < 96
  · rw [if_pos h96, if_pos h96]
    unfold linv
    simp
  rw [if_neg h96, if_neg h96]
  by_cases h104 : k < 104
  · rw [if_pos h104, if_pos h104]
    unfold linv
    simp
  rw [if_neg h104, if_neg h104]
  by_cases h129 : k < 129
  · rw [if_pos h129, if_pos h129]
    unfold linv
    simp
  rw [if_neg h129, if_neg h129]
  unfold linv
  simp
theorem lab_inj {k j : Int} (hk : okP k) (hj : okP j) (e1 : la k = la j) (e2 : lb k = lb j) : k = j := by
  rw [← linv_ok hk, ← linv_ok hj, e1, e2]
/-! the languages: how the reference's code is reckoned (mEv), how the class's (xEv) -/
def mRe (op a b : Int) : Option Int :=
  let v : Option Int := if op = 20 then some (a + b) else if op = 21 then some (a - b) else if op = 22 then some (a * b) else if op = 23 then (if b = 0 then none else some (a.tdiv b)) else if op = 24 then (if b = 0 then none else some (a.tmod b)) else if op = 25 then some (b2i (a < b)) else if op = 26 then some (b2i (b < a)) else some (b2i (a = b))
  match v with
  | none => none
  | some v => if -1000000000 ≤ v ∧ v ≤ 1000000000 then some v else none
def mEv (op arg leaf : Int → Int) (last : Int) : Nat → Int → List Int → Option (Option (List Int))
  | 0, _, _ => none
  | n + 1, k, st =>
    if k < 0 then none
    else if k < last then
      if op k < 20 then mEv op arg leaf last n (k + 1) (leaf k :: st)
      else if op k < 28 then match st with
        | b :: a :: r => (match mRe (op k) a b with
          | none => some none
          | some v => mEv op arg leaf last n (k + 1) (v :: r))
        | _ => none
      else if op k = 28 then match st with
        | a :: r => mEv op arg leaf last n (k + 1) ((1 - a) :: r)
        | _ => none
      else match st with
        | a :: r => if a = (if op k = 29 then 0 else 1) then mEv op arg leaf last n (arg k) (a :: r) else mEv op arg leaf last n (k + 1) r
        | _ => none
    else some (some st)
def xBr : Int := -2000000000
def xJo (sign a b : Int) : Int :=
  let v : Int := if sign = 43 then a + b else if sign = 45 then a - b else if sign = 42 then a * b else if sign = 47 then (if b = 0 then xBr else a.tdiv b) else if sign = 37 then (if b = 0 then xBr else a.tmod b) else if sign = 60 then b2i (a < b) else if sign = 62 then b2i (b < a) else if sign = 61 then b2i (a = b) else xBr
  if v < -1000000000 ∨ 1000000000 < v then xBr else v
def xEv (steps facts : Int → Int) (len : Int) : Nat → Int → List Int → Int
  | 0, _, _ => xBr
  | n + 1, at_, st =>
    if 0 ≤ at_ ∧ at_ + 1 < len then
      let step := steps at_
      let told := steps (at_ + 1)
      if step = 1 ∨ step = 2 then
        if 100 ≤ st.length ∨ (step = 2 ∧ (told < 0 ∨ 38 ≤ told)) then xBr else xEv steps facts len n (at_ + 2) ((if step = 1 then told else facts told) :: st)
      else match st with
        | [] => xBr
        | a :: r =>
          if step = 0 then a
          else if step = 3 then xEv steps facts len n (at_ + 2) ((1 - a) :: r)
          else if step = 4 ∨ step = 5 then
            if a = (if step = 4 then 1 else 0) then xEv steps facts len n told (a :: r) else xEv steps facts len n (at_ + 2) r
          else match r with
            | [] => xBr
            | b :: q => if xJo step b a = xBr then xBr else xEv steps facts len n (at_ + 2) (xJo step b a :: q)
    else xBr
/-- the class's steps from f on say what the reference's code from s0 to s1 says, whatever the words (0 to m) are; F, L: a word's value here and there -/
def SemEq (m : Int) (steps : Int → Int) (len f : Int) (op arg : Int → Int) (L : (Int → Int) → Int → Int) (F : (Int → Int) → Int → Int) (s0 s1 : Int) : Prop :=
  ∀ e : Int → Int, (∀ i, 1 ≤ i → i ≤ m → -1000000000 ≤ e i ∧ e i ≤ 1000000000) →
    (∃ v, mEv op arg (L e) s1 400 s0 [] = some (some [v]) ∧ xEv steps (F e) len len.toNat f [] = v ∧ -1000000000 ≤ v ∧ v ≤ 1000000000) ∨
    (mEv op arg (L e) s1 400 s0 [] = some none ∧ xEv steps (F e) len len.toNat f [] = xBr)
/-- and says 0 or 1 -/
def TstEq (m : Int) (steps : Int → Int) (len f : Int) (op arg : Int → Int) (L : (Int → Int) → Int → Int) (F : (Int → Int) → Int → Int) (s0 s1 : Int) : Prop :=
  SemEq m steps len f op arg L F s0 s1 ∧ ∀ e : Int → Int, (∀ i, 1 ≤ i → i ≤ m → -1000000000 ≤ e i ∧ e i ≤ 1000000000) → ∀ v, mEv op arg (L e) s1 400 s0 [] = some (some [v]) → v = 0 ∨ v = 1
/-- steps stand in pairs: what is told is small, words up to m are asked, jumps go to pairs -/
def WfS (m : Int) (steps : Int → Int) (len : Int) : Prop := ∀ i, 0 ≤ i → 2 * i + 1 < len → (-1000000000 ≤ steps (2 * i + 1) ∧ steps (2 * i + 1) ≤ 1000000000) ∧ (steps (2 * i) = 2 → 0 ≤ steps (2 * i + 1) ∧ steps (2 * i + 1) ≤ m) ∧ (steps (2 * i) = 4 ∨ steps (2 * i) = 5 → steps (2 * i + 1) % 2 = 0)
/-- code c of a law in the reference's row, from its first place on -/
def cOp (c : Int → Int) (k : Int) : Int := c (98 + 2 * k)
def cArg (c : Int → Int) (k : Int) : Int := c (98 + 2 * k + 1)
def cLeaf (c : Int → Int) (e : Int → Int) (k : Int) : Int := if cOp c k = 0 then cArg c k else e (cOp c k)
def TxtR (hX : AH) (t : Nat) (c : Int → Int) : Prop :=
  76 ≤ t ∧ t < hn hX ∧ kd hX t = .inl 5 ∧ ∃ (a s na ns : Nat), 76 ≤ a ∧ 76 ≤ s ∧ a < hn hX ∧ s < hn hX ∧ rf hX t 1 = some a ∧ rf hX t 3 = some s ∧ kd hX a = .inr (0, na) ∧ kd hX s = .inr (0, ns) ∧ (na : Int) ≤ 60 ∧ (ns : Int) ≤ 872 ∧
    gi hX t 0 = c 1 ∧ 0 ≤ c 1 ∧ c 1 ≤ 12 ∧ gi hX t 2 = ns ∧ 5 * c 1 = na ∧ WfS 10 (gi hX s) ns ∧
    ∀ j, 0 ≤ j → j < c 1 → (0 ≤ c (2 + 8 * j) ∧ c (2 + 8 * j) ≤ 3 ∧ gi hX a (5 * j) = c (2 + 8 * j)) ∧
      (c (2 + 8 * j) < 2 → gi hX a (5 * j + 1) ≠ -1 ∧ gi hX a (5 * j + 1) % 2 = 0 ∧ gi hX a (5 * j + 1) ≤ 872 ∧ 0 ≤ c (2 + 8 * j + 3) ∧ c (2 + 8 * j + 4) ≤ 400 ∧ SemEq 11 (gi hX s) ns (gi hX a (5 * j + 1)) (cOp c) (cArg c) (cLeaf c) (fun e i => e (i + 1)) (c (2 + 8 * j + 3)) (c (2 + 8 * j + 4))) ∧
      (2 ≤ c (2 + 8 * j) → gi hX a (5 * j + 1) = -1) ∧
      ((gi hX a (5 * j + 4) = -1 ∧ c (2 + 8 * j + 6) ≤ c (2 + 8 * j + 5)) ∨
        (gi hX a (5 * j + 4) ≠ -1 ∧ gi hX a (5 * j + 4) % 2 = 0 ∧ gi hX a (5 * j + 4) ≤ 872 ∧ c (2 + 8 * j + 5) < c (2 + 8 * j + 6) ∧ 0 ≤ c (2 + 8 * j + 5) ∧ c (2 + 8 * j + 6) ≤ 400 ∧ TstEq 11 (gi hX s) ns (gi hX a (5 * j + 4)) (cOp c) (cArg c) (cLeaf c) (fun e i => e (i + 1)) (c (2 + 8 * j + 5)) (c (2 + 8 * j + 6))))
def lawC (r : Int → Int) (i : Int) : Int → Int := fun j => if 0 ≤ j then r (140 + 900 * i + j) else 0
theorem lawC_at {r : Int → Int} {i j : Int} (h : 0 ≤ j) : lawC r i j = r (140 + 900 * i + j) := if_pos h
theorem lawC_eq {r r' : Int → Int} {i : Int} (hi : 0 ≤ i) (e : ∀ j, 140 ≤ j → r' j = r j) : lawC r' i = lawC r i := by
  funext j
  unfold lawC
  split
  · exact e _ (by omega)
  · rfl
/-- the laws' texts; whatever stands in the laws' array is a text -/
def RTx (hX : AH) (o : Nat) (r : Int → Int) : Prop := (∀ i, 0 ≤ i → i < r 3 → ∃ t, rf hX (o + 12) i = some t ∧ TxtR hX t (lawC r i)) ∧ ∀ i t, 0 ≤ i → i < 6 → rf hX (o + 12) i = some t → 76 ≤ t ∧ t < hn hX ∧ kd hX t = .inl 5
/-- leaves and jumps of the code are in order -/
def InvC (c : Int → Int) : Prop := ∀ k, 0 ≤ k → k < 400 → 0 ≤ cOp c k ∧ cOp c k ≤ 30 ∧ (cOp c k < 20 → cOp c k ≤ 11 ∧ -1000000000 ≤ cArg c k ∧ cArg c k ≤ 1000000000)
/-- what always holds of the reference's row -/
def InvR (r : Int → Int) : Prop :=
  (0 ≤ r 0 ∧ r 0 ≤ 8 ∧ 0 ≤ r 1 ∧ r 1 ≤ 8 ∧ 0 ≤ r 2 ∧ r 2 ≤ 8 ∧ 0 ≤ r 3 ∧ r 3 ≤ 6 ∧ -1 ≤ r 4 ∧ (r 4 < r 3 ∨ r 4 = -1) ∧ 0 ≤ r 5 ∧ r 5 ≤ 999 ∧ 0 ≤ r 6 ∧ r 6 ≤ 9) ∧
  (∀ d, 0 ≤ d → d < r 1 → -1 ≤ r (7 + d) ∧ r (7 + d) < r 0 ∧ -1 ≤ r (15 + d) ∧ r (15 + d) ≤ 24 ∧ 0 ≤ r (23 + d) ∧ r (23 + d) ≤ 999 ∧ (r (7 + d) = -1 ∨ r (15 + d) = -1) ∧
    ((r (31 + d) = 1 ∧ r (7 + d) = -1 ∧ r (15 + d) = -1) ∨ (r (31 + d) = 0 ∧ ¬ (r (7 + d) = -1 ∧ r (15 + d) = -1))) ∧
    1 ≤ r (72 + d) ∧ r (72 + d) ≤ 9 ∧ 0 ≤ r (80 + d) ∧ r (80 + d) ≤ 3 ∧ 0 ≤ r (88 + d) ∧ r (88 + d) < r 0 ∧ 0 ≤ r (96 + d) ∧ r (96 + d) < 64 ∧ (r (7 + d) = -1 ∨ r (23 + d) = 0)) ∧
  (∀ d e, 0 ≤ d → d < e → e < r 1 → r (7 + d) = r (7 + e) → r (7 + d) = -1) ∧
  (∀ c, 0 ≤ c → c < 25 → 0 ≤ r (39 + c) ∧ r (39 + c) ≤ 99 ∧ 0 ≤ r (104 + c) ∧ r (104 + c) ≤ 4) ∧
  (∀ k, 0 ≤ k → k < r 0 → 1 ≤ r (64 + k) ∧ r (64 + k) ≤ 9) ∧
  (∀ k, 0 ≤ k → k < r 2 → 1 ≤ r (129 + k) ∧ r (129 + k) ≤ 9) ∧
  (∀ i, 0 ≤ i → i < 6 → InvC (lawC r i))
/-- an isle, and what the reference has in its place -/
def RA (hX : AH) (o : Nat) (r : Int → Int) : Prop := RIs hX o r ∧ RTx hX o r ∧ InvR r
/-- the row with a snapshot of 59 places put back -/
def backR (r u : Int → Int) : Int → Int := fun k => if 5 ≤ k ∧ k < 64 then u (k - 5) else r k
/-- what can be undone -/
def RU (hX hM : AH) : Prop :=
  gi hX 41 1 = gi hM 0 8 ∧ 0 ≤ gi hM 0 8 ∧ gi hM 0 8 ≤ 16 ∧
  ∀ j, 0 ≤ j → j < gi hM 0 8 → (gi hX 42 (51 * j) = gi hM 6 j ∧ 0 ≤ gi hM 6 j ∧ gi hM 6 j ≤ 4) ∧ gi hX 42 (51 * j + 1) = gi hM 5 (59 * j) ∧ gi hM 5 (59 * j + 1) = gi hM 2 6 ∧
    (∀ i, 0 ≤ i → i < 24 → gi hX 42 (51 * j + 2 + i) = gi hM 5 (59 * j + 2 + i)) ∧
    (∀ i, 0 ≤ i → i < 25 → gi hX 42 (51 * j + 26 + i) = gi hM 5 (59 * j + 34 + i)) ∧
    InvR (backR (gi hM 2) (fun i => gi hM 5 (59 * j + i)))
/-- images -/
def RI (hX hM : AH) : Prop := ∀ k : Nat, k < 2 → gi hX 15 k = gi hM 4 k ∧ (gi hM 4 k = 0 ∨ (gi hM 4 k = 1 ∧ RA hX (50 + 13 * k) (fun i => gi hM 3 (5540 * k + i))))
/-- the latest summers; the shortest way through no cells -/
def RS (hX hM : AH) : Prop := ((gi hX 0 4 = 0 ∧ gi hM 0 57 = -1) ∨ (gi hX 0 4 = 1 ∧ gi hM 0 57 = gi hX 16 2 ∧ 0 ≤ gi hM 0 57 ∧ gi hM 0 57 ≤ 8 ∧
  (∀ d, 0 ≤ d → d < gi hM 0 57 → gi hM 30 (2 * d) = gi hX 23 d ∧ gi hM 30 (2 * d + 1) = gi hX 24 d) ∧ ∀ c, 0 ≤ c → c < 25 → gi hM 31 c = gi hX 25 c)) ∧ ∀ k : Int, gi hX 46 (k * 128) = 0
/-- tape, numbers of one place; n: how many calls there were -/
def RN (n : Nat) (hX hM : AH) : Prop :=
  (gi hX 29 1 = gi hM 0 13 ∧ 0 ≤ gi hM 0 13 ∧ gi hM 0 13 ≤ 400 ∧ ∀ i, 0 ≤ i → i < 400 → gi hX 30 i = gi hM 9 i ∧ 0 ≤ gi hM 9 i ∧ gi hM 9 i ≤ 255) ∧
  gi hX 31 8 = gi hM 0 18 ∧ gi hX 0 10 = gi hM 0 11 ∧ gi hX 0 11 = gi hM 0 52 ∧ gi hX 0 14 = gi hM 0 1 ∧
  (gi hX 14 0 = gi hM 1 1 ∧ gi hX 14 1 = gi hM 1 2 ∧ gi hX 14 2 = gi hM 1 3 ∧ gi hX 14 3 = gi hM 1 5 ∧ gi hX 14 4 = gi hM 1 6) ∧
  (∀ k, 0 ≤ k → k < 7 → 0 ≤ gi hM 1 k ∧ gi hM 1 k ≤ n) ∧ n ≤ 512
/-- the reference's tables of words -/
def wTab : List Int := [146930, 763013, 769508, 277925, 8902245, 632645, 103820, 206440, 3199080, 4153, 441828]
def oTab : List Int := [4153, 146885, 404362868, 508078, 52, 8902245, 3199080]
def hTab : List Int := [3275858099, 20317619, 206483, 67155]
def aTab : List Int := [404404328, 623916, 206440, 263623, 664709]
def RC (hM : AH) : Prop := gi hM 0 20 = 0 ∧ (∀ k : Nat, k < 11 → gl hM 15 k = wTab.getD k 0) ∧ (∀ k : Nat, k < 7 → gl hM 16 k = oTab.getD k 0) ∧ (∀ k : Nat, k < 4 → gl hM 17 k = hTab.getD k 0) ∧ ∀ k : Nat, k < 5 → gl hM 28 k = aTab.getD k 0
def RR (n : Nat) (hX hM : AH) : Prop := RA hX 1 (gi hM 2) ∧ RU hX hM ∧ RI hX hM ∧ RS hX hM ∧ RN n hX hM ∧ RC hM ∧ 76 ≤ hn hX
