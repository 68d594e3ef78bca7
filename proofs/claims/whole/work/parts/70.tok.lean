/-! the tape's TOKENS -/
abbrev ltL (x : Int) : Prop := 97 ≤ x ∧ x ≤ 122
abbrev ltD (x : Int) : Prop := 48 ≤ x ∧ x ≤ 57
abbrev ltB (x : Int) : Prop := x = 32
def runF (p : Int → Prop) [DecidablePred p] (T : Int → Int) : Nat → Int → Int
  | 0, i => i
  | f + 1, i => if p (T i) then runF p T f (i + 1) else i
/-- from i on, as long as p holds, up to n -/
def runTo (p : Int → Prop) [DecidablePred p] (T : Int → Int) (n i : Int) : Int := runF p T (n - i).toNat i
theorem runTo_go {p : Int → Prop} [DecidablePred p] {T : Int → Int} {n i : Int} (h : i < n) (hp : p (T i)) : runTo p T n i = runTo p T n (i + 1) := by
  unfold runTo
  rw [show (n - i).toNat = (n - (i + 1)).toNat + 1 by omega, runF, if_pos hp]
theorem runTo_no {p : Int → Prop} [DecidablePred p] {T : Int → Int} {n i : Int} (hp : ¬ p (T i)) : runTo p T n i = i := by
  unfold runTo
  match (n - i).toNat with
  | 0 => rfl
  | f + 1 => rw [runF, if_neg hp]
theorem runTo_end {p : Int → Prop} [DecidablePred p] {T : Int → Int} {n i : Int} (h : n ≤ i) : runTo p T n i = i := by
  unfold runTo
  rw [show (n - i).toNat = 0 by omega]
  rfl
theorem runTo_R {p : Int → Prop} [DecidablePred p] {T : Int → Int} {n : Int} : ∀ (f : Nat) (i : Int), i + f = n → i ≤ runTo p T n i ∧ runTo p T n i ≤ n ∧ (∀ j, i ≤ j → j < runTo p T n i → p (T j)) ∧ (runTo p T n i < n → ¬ p (T (runTo p T n i)))
  | 0, i, e => by
    rw [runTo_end (by omega)]
    exact ⟨by omega, by omega, fun j _ _ => by omega, fun _ => by omega⟩
  | f + 1, i, e => by
    by_cases c : p (T i)
    · rw [runTo_go (by omega) c]
      obtain ⟨h1, h2, h3, h4⟩ := runTo_R (p := p) (T := T) (n := n) f (i + 1) (by omega)
      refine ⟨by omega, h2, fun j j0 j1 => ?_, h4⟩
      rcases Int.lt_or_le i j with z | z
      · exact h3 j z j1
      · have : j = i := by omega
        subst this
        exact c
    · rw [runTo_no c]
      exact ⟨by omega, by omega, fun j _ _ => by omega, fun _ => c⟩
theorem runTo_r {p : Int → Prop} [DecidablePred p] {T : Int → Int} {n i : Int} (h : i ≤ n) : i ≤ runTo p T n i ∧ runTo p T n i ≤ n ∧ (∀ j, i ≤ j → j < runTo p T n i → p (T j)) ∧ (runTo p T n i < n → ¬ p (T (runTo p T n i))) := runTo_R (n := n) (n - i).toNat i (by omega)
def tEnd (T : Int → Int) (n i : Int) : Int := if ltL (T i) then runTo ltL T n (i + 1) else if ltD (T i) then runTo ltD T n (i + 1) else i + 1
theorem tEnd_R {T : Int → Int} {n i : Int} (h : i < n) : i < tEnd T n i ∧ tEnd T n i ≤ n := by
  unfold tEnd
  split
  · have := runTo_r (p := ltL) (T := T) (show i + 1 ≤ n by omega)
    omega
  · split
    · have := runTo_r (p := ltD) (T := T) (show i + 1 ≤ n by omega)
      omega
    · omega
/-! numbers -/
def nuF (T : Int → Int) : Nat → Int → Int → Int
  | 0, _, a => a
  | k + 1, i, a => nuF T k (i + 1) (min (a * 10 + T i - 48) 1000000)
def nuM (T : Int → Int) : Nat → Int → Int → Int
  | 0, _, a => a
  | k + 1, i, a => nuM T k (i + 1) (if 1000000 < a then a else a * 10 + T i - 48)
def nuR (v w : Int) : Prop := 0 ≤ v ∧ v ≤ 1000000 ∧ ((v < 1000000 ∧ w = v) ∨ (v = 1000000 ∧ 1000000 ≤ w ∧ w ≤ 10000009))
theorem nu_eq {T : Int → Int} : ∀ (k : Nat) (i a b : Int), (∀ j, i ≤ j → j < i + k → ltD (T j)) → nuR a b → nuR (nuF T k i a) (nuM T k i b)
  | 0, _, _, _, _, h => h
  | k + 1, i, a, b, hT, h => by
    unfold nuF nuM
    refine nu_eq k (i + 1) _ _ (fun j j0 j1 => hT j (by omega) (by omega)) ?_
    have := hT i (by omega) (by omega)
    unfold nuR at *
    unfold ltD at this
    split <;> omega
/-! words -/
def lets (T : Int → Int) (p : Int) (k : Nat) : List Int := (List.range k).map (fun j => T (p + (j : Nat)))
theorem lets_s {T : Int → Int} {p : Int} {k : Nat} : lets T p (k + 1) = lets T p k ++ [T (p + k)] := by
  unfold lets
  rw [List.range_succ, List.map_append]
  rfl
theorem lets_len {T : Int → Int} {p : Int} {k : Nat} : (lets T p k).length = k := by
  unfold lets
  simp
theorem lets_c {T : Int → Int} {p : Int} {k : Nat} : lets T p (k + 1) = T p :: lets T (p + 1) k := by
  unfold lets
  rw [List.range_succ_eq_map, List.map_cons, List.map_map]
  congr 1
  · congr 1
    omega
  · refine List.map_congr_left (fun j _ => ?_)
    show T (p + ((j + 1 : Nat) : Int)) = T (p + 1 + j)
    congr 1
    omega
theorem lets_all {T : Int → Int} {p : Int} {k : Nat} (h : ∀ j, p ≤ j → j < p + k → ltL (T j)) : ∀ x ∈ lets T p k, ltL x := by
  intro x hx
  unfold lets at hx
  obtain ⟨j, hj, e⟩ := List.mem_map.mp hx
  have := List.mem_range.mp hj
  subst e
  exact h _ (by omega) (by omega)
def hsh (l : List Int) : Int := l.foldl (fun a x => a * 32 + x - 96) 0
theorem hsh_s {l : List Int} {x : Int} : hsh (l ++ [x]) = hsh l * 32 + x - 96 := by
  unfold hsh
  rw [List.foldl_append]
  rfl
def rh : List Int → Int
  | [] => 0
  | x :: r => rh r * 32 + x - 96
theorem hsh_rh (l : List Int) : hsh l = rh l.reverse := by
  have : ∀ l : List Int, hsh l.reverse = rh l := fun l => by
    induction l with
    | nil => rfl
    | cons x r ih => rw [List.reverse_cons, hsh_s, ih]; rfl
  rw [← this l.reverse, List.reverse_reverse]
theorem rh_0 : ∀ (l : List Int), (∀ x ∈ l, ltL x) → 0 ≤ rh l
  | [], _ => Int.le_refl 0
  | x :: r, h => by
    have := rh_0 r (fun z hz => h z (List.mem_cons_of_mem _ hz))
    have := h x List.mem_cons_self
    unfold ltL at this
    unfold rh
    omega
theorem rh_inj : ∀ (l r : List Int), (∀ x ∈ l, ltL x) → (∀ x ∈ r, ltL x) → rh l = rh r → l = r
  | [], [], _, _, _ => rfl
  | [], x :: r, _, h, e => by
    have := rh_0 r (fun z hz => h z (List.mem_cons_of_mem _ hz))
    have := h x List.mem_cons_self
    unfold rh at e
    unfold ltL at this
    omega
  | x :: r, [], h, _, e => by
    have := rh_0 r (fun z hz => h z (List.mem_cons_of_mem _ hz))
    have := h x List.mem_cons_self
    unfold rh at e
    unfold ltL at this
    omega
  | x :: r, z :: s, h1, h2, e => by
    have a1 := h1 x List.mem_cons_self
    have a2 := h2 z List.mem_cons_self
    unfold ltL at a1 a2
    simp only [rh] at e
    have e1 : x = z := by omega
    have e2 : rh r = rh s := by omega
    rw [e1, rh_inj r s (fun z hz => h1 z (List.mem_cons_of_mem _ hz)) (fun z hz => h2 z (List.mem_cons_of_mem _ hz)) e2]
theorem hsh_inj {l r : List Int} (h1 : ∀ x ∈ l, ltL x) (h2 : ∀ x ∈ r, ltL x) (e : hsh l = hsh r) : l = r := by
  rw [hsh_rh, hsh_rh] at e
  have := rh_inj l.reverse r.reverse (fun x hx => h1 x (List.mem_reverse.mp hx)) (fun x hx => h2 x (List.mem_reverse.mp hx)) e
  rw [← List.reverse_reverse l, this, List.reverse_reverse]
theorem hsh_0 {l : List Int} (h1 : ∀ x ∈ l, ltL x) : 0 ≤ hsh l := by
  rw [hsh_rh]
  exact rh_0 _ (fun x hx => h1 x (List.mem_reverse.mp hx))
/-- the words by their numbers -/
def wds : List (List Int) := [[100, 111, 111, 114], [119, 105, 100, 101], [119, 111, 111, 100], [104, 111, 109, 101], [104, 111, 117, 115, 101], [115, 105, 122, 101], [99, 101, 108, 108], [102, 105, 115, 104], [99, 97, 116, 99, 104], [100, 97, 121], [109, 111, 111, 100], [100, 111, 110, 101], [108, 97, 116, 101, 115, 116], [111, 112, 101, 110], [97, 116], [99, 97, 116, 99, 104, 101, 115], [115, 108, 97, 109, 115], [102, 105, 116, 115], [98, 97, 114, 115], [108, 97, 117, 110, 99, 104], [115, 97, 105, 108], [104, 97, 110, 103], [116, 105, 100, 101], [98, 121], [105, 110], [116, 105, 109, 101, 115], [105, 102], [111, 114], [97, 110, 100], [110, 111, 116]]
def hsL : List Int := [146930, 763013, 769508, 277925, 8902245, 632645, 103820, 206440, 3199080, 4153, 441828, 146885, 404362868, 508078, 52, 3275858099, 20317619, 206483, 67155, 404404328, 623916, 263623, 664709, 89, 302, 21279923, 294, 498, 1476, 14836]
def wFind : List (List Int) → Int → List Int → Int
  | [], _, _ => 257
  | w :: r, k, l => if w = l then k else wFind r (k + 1) l
def wCode (l : List Int) : Int := wFind wds 258 l
theorem wFind_R : ∀ (ws : List (List Int)) (b : Int) (l : List Int), 258 ≤ b → wFind ws b l = 257 ∨ (b ≤ wFind ws b l ∧ wFind ws b l < b + ws.length)
  | [], _, _, _ => Or.inl rfl
  | w :: r, b, l, h => by
    unfold wFind
    rw [List.length_cons]
    split
    · omega
    · have := wFind_R r (b + 1) l (by omega)
      omega
theorem wFind_iff : ∀ (ws : List (List Int)) (b : Int) (l : List Int), ws.Nodup → 258 ≤ b → ∀ k : Nat, k < ws.length → (wFind ws b l = b + k ↔ ws[k]? = some l)
  | [], _, _, _, _, k, hk => absurd hk (Nat.not_lt_zero k)
  | w :: r, b, l, hn, hb, k, hk => by
    obtain ⟨n1, n2⟩ := List.nodup_cons.mp hn
    rw [List.length_cons] at hk
    have R := wFind_R r (b + 1) l (by omega)
    unfold wFind
    match k, hk with
    | 0, _ =>
      rw [List.getElem?_cons_zero, Option.some.injEq]
      by_cases c : w = l
      · rw [if_pos c]
        exact ⟨fun _ => c, fun _ => by omega⟩
      · rw [if_neg c]
        exact ⟨fun e => by omega, fun e => absurd e c⟩
    | k + 1, hk =>
      rw [List.getElem?_cons_succ, ← wFind_iff r (b + 1) l n2 (by omega) k (by omega)]
      by_cases c : w = l
      · rw [if_pos c]
        refine ⟨fun e => by omega, fun e => ?_⟩
        have := (wFind_iff r (b + 1) l n2 (by omega) k (by omega)).mp e
        exact absurd (c ▸ List.mem_of_getElem? this) n1
      · rw [if_neg c]
        constructor <;> intro e <;> omega
theorem wds_nodup : wds.Nodup := by decide
theorem wds_L : ∀ w ∈ wds, (∀ x ∈ w, ltL x) ∧ w.length ≤ 10 := by decide
theorem hsL_eq : hsL = wds.map hsh := by decide
/-- what the reference makes of a word -/
def wo (l : List Int) : Int := if l.length ≤ 10 then hsh l else -1
theorem wCode_hs {l : List Int} (hl : ∀ x ∈ l, ltL x) (k : Nat) (hk : k < 30) : wCode l = 258 + k ↔ wo l = hsL.getD k 0 := by
  unfold wCode
  rw [wFind_iff wds 258 l wds_nodup (by omega) k hk]
  have e1 : wds[k]? = some (wds.getD k []) := by
    rw [List.getD_eq_getElem?_getD, List.getElem?_eq_getElem (show k < wds.length from hk)]
    rfl
  have m := wds_L _ (List.mem_of_getElem? e1)
  have e2 : hsL.getD k 0 = hsh (wds.getD k []) := by
    rw [hsL_eq, List.getD_eq_getElem?_getD, List.getElem?_map, e1]
    rfl
  rw [e1, e2, Option.some.injEq]
  unfold wo
  constructor
  · intro e
    rw [← e, if_pos m.2]
  · intro e
    by_cases c : l.length ≤ 10
    · rw [if_pos c] at e
      exact (hsh_inj hl m.1 e).symm
    · rw [if_neg c] at e
      have := hsh_0 m.1
      omega
/-! a token's number and worth, by its place -/
def cdF (T : Int → Int) (n i : Int) : Int := if n ≤ i then -1 else if ltL (T i) then wCode (lets T i (tEnd T n i - i).toNat) else if ltD (T i) then 256 else T i
def nmF (T : Int → Int) (n i : Int) : Int := if n ≤ i then 0 else if ltL (T i) then 0 else if ltD (T i) then nuF T (tEnd T n i - i).toNat i 0 else 0
def tkF (T : Int → Int) (n i : Int) : Int := if n ≤ i then n else tEnd T n i
