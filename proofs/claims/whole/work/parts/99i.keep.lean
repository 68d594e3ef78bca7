/-! the reference keeps all ahead of orders -/
section KEEP
variable {d b : Nat} {Q : Option AV → AH → Prop} {h : AH} {y : Int}
theorem lp_kp2 (hQ : Lp_X8_orders_140 d b Q y 0 (si (si (cpy h 6 0 8 0 16) 0 50 0) 0 51 (-1))) : ∀ (n : Nat) (i : Int), 0 ≤ i → i + n = 16 → Lp_X8_orders_104 d b Q y i (cpy h 6 0 8 0 i)
  | 0, i, i0, e => by
    have : i = 16 := by omega
    subst this
    exact l_X8_orders_104 ⟨fun _ => l_X8_orders_128 (fun h1 e1 h2 e2 => by subst e2 e1; exact hQ), fun z => by omega⟩
  | n + 1, i, i0, e => by
    refine l_X8_orders_104 ⟨fun z => by omega, fun _ => ⟨by omega, by omega, fun h1 e1 => ⟨by omega, ?_⟩⟩⟩
    have w := cpy_s (h := h) (a := 6) (b := 8) (s := 0) (dp := 0) i0
    rw [Int.zero_add] at w
    rw [cpy_out (by omega), w] at e1
    subst e1
    exact lp_kp2 hQ n (i + 1) (by omega) (by omega)
theorem lp_kp1 (hQ : Lp_X8_orders_140 d b Q y 0 (si (si (cpy (cpy h 5 0 7 0 944) 6 0 8 0 16) 0 50 0) 0 51 (-1))) : ∀ (n : Nat) (i : Int), 0 ≤ i → i + n = 944 → Lp_X8_orders_77 d b Q y i (cpy h 5 0 7 0 i)
  | 0, i, i0, e => by
    have : i = 944 := by omega
    subst this
    refine l_X8_orders_77 ⟨fun _ => l_X8_orders_102 ?_, fun z => by omega⟩
    have := lp_kp2 hQ 16 0 (by decide) (by decide)
    rw [cpy_0] at this
    exact this
  | n + 1, i, i0, e => by
    refine l_X8_orders_77 ⟨fun z => by omega, fun _ => ⟨by omega, by omega, fun h1 e1 => ⟨by omega, ?_⟩⟩⟩
    have w := cpy_s (h := h) (a := 5) (b := 7) (s := 0) (dp := 0) i0
    rw [Int.zero_add] at w
    rw [cpy_out (by omega), w] at e1
    subst e1
    exact lp_kp1 hQ n (i + 1) (by omega) (by omega)
/-- the heap ahead of the loops -/
def kpM (h : AH) : AH := si (si (cpy (cpy (cpy h 2 5 5 1003 59) 5 0 7 0 944) 6 0 8 0 16) 0 50 0) 0 51 (-1)
theorem ordM_ok {X : Txt} {i p : Int} (M : MC X h i p) (hc : X.c i = -1) (K : Lp_X8_orders_140 d b Q (gi h 0 8) 0 (kpM (si (si h 0 20 0) 0 13 0))) : Lp_X8_orders_46 d b Q h := by
  refine l_X8_orders_46 (c_endOk M.1 (M.end16 hc) ⟨rfl, fun _ => c_X8_keepAll (by decide) ⟨rfl, ?_⟩, fun z => absurd M.1 z⟩)
  rw [cpy_out (by omega), gi_nk (by decide), gi_nk (by decide)]
  have := lp_kp1 (d := d) (b := b) (Q := Q) (y := gi h 0 8) (h := cpy (si (si h 0 20 0) 0 13 0) 2 5 5 1003 59) K 944 0 (by decide) (by decide)
  rw [cpy_0] at this
  exact this
theorem kpM_gi (h : AH) {q : Nat} {k : Int} (z : ¬ (q = 7 ∨ q = 8 ∨ (q = 5 ∧ 1003 ≤ k ∧ k < 1062) ∨ (q = 0 ∧ (k = 50 ∨ k = 51)))) : gi (kpM h) q k = gi h q k := by
  unfold kpM
  rw [gi_ne (by omega), gi_ne (by omega), cpy_out (by omega), cpy_out (by omega), cpy_out (by omega)]
theorem kpM_5 (h : AH) : ∀ i, 0 ≤ i → i < 59 → gi (kpM h) 5 (1003 + i) = gi (kpM h) 2 (5 + i) := fun i i0 i1 => by
  rw [kpM_gi h (q := 2) (by omega)]
  unfold kpM
  rw [gi_no (by decide), gi_no (by decide), cpy_out (by omega), cpy_out (by omega), cpy_in (by omega)]
  congr 1
  omega
theorem kpM_7 (h : AH) : ∀ k, 0 ≤ k → k < 944 → gi (kpM h) 7 k = gi (kpM h) 5 k := fun k k0 k1 => by
  rw [kpM_gi h (q := 5) (by omega)]
  unfold kpM
  rw [gi_no (by decide), gi_no (by decide), cpy_out (by omega), cpy_in (by omega), cpy_out (by omega)]
  congr 1
  omega
theorem kpM_8 (h : AH) : ∀ k, 0 ≤ k → k < 16 → gi (kpM h) 8 k = gi (kpM h) 6 k := fun k k0 k1 => by
  rw [kpM_gi h (q := 6) (by omega)]
  unfold kpM
  rw [gi_no (by decide), gi_no (by decide), cpy_in (by omega), cpy_out (by omega), cpy_out (by omega)]
  congr 1
  omega
end KEEP
