/-! what the static graph does not know: laws -/
theorem gx_n12 {o : Nat} (h : isl o) (i : Int) : GX.2 (o + 12) i = none := by
  rcases h with z | z | z | z <;> subst z <;> cases i <;> rfl
theorem WM_gd {G : GT} {d b : Nat} {y : Mth} {vs : List AV} {h : AH} {Q : Option AV → AH → Prop} (k : Gd G h → WM G d b y vs h Q) : WM G d b y vs h Q := fun l D cA w0 sz ad o g v => k g l D cA w0 sz ad o g v
theorem WM_ok {G : GT} {d b : Nat} {y : Mth} {vs : List AV} {h : AH} {Q : Option AV → AH → Prop} (k : OkH h → WM G d b y vs h Q) : WM G d b y vs h Q := fun l D cA w0 sz ad o g v => k o l D cA w0 sz ad o g v
theorem gx_im (k : Int) (h : k = 0 ∨ k = 1) : GX.2 14 k = some (51 + 13 * k.toNat) := by
  rcases h with z | z <;> subst z <;> rfl
