/-! what the static graph does not know: laws -/
theorem gx_n12 {o : Nat} (h : isl o) (i : Int) : GX.2 (o + 12) i = none := by
  rcases h with z | z | z | z <;> subst z <;> cases i <;> rfl
theorem WM_gd {G : GT} {d b : Nat} {y : Mth} {vs : List AV} {h : AH} {Q : Option AV → AH → Prop} (k : Gd G h → WM G d b y vs h Q) : WM G d b y vs h Q := fun l D cA w0 sz ad o g v => k g l D cA w0 sz ad o g v
theorem WM_ok {G : GT} {d b : Nat} {y : Mth} {vs : List AV} {h : AH} {Q : Option AV → AH → Prop} (k : OkH h → WM G d b y vs h Q) : WM G d b y vs h Q := fun l D cA w0 sz ad o g v => k o l D cA w0 sz ad o g v
theorem c_X7_imageOf {d b : Nat} {Q : Option AV → AH → Prop} {h : AH} {x : Int} (hx : x = 0 ∨ x = 1) (k : Q (some (vR (some (50 + 13 * Int.toNat x)))) h) : WM GX d b mX7_imageOf [vR (some 0), vI x] h Q := by
  rcases hx with z | z <;> subst z
  · exact w_X7_imageOf ⟨fun _ => k, fun z => absurd rfl z⟩
  · exact w_X7_imageOf ⟨fun z => absurd z (by decide), fun _ => k⟩
