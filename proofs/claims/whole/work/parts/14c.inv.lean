/-! what always holds of the row, behind a write -/
theorem InvR.house {r : Int → Int} (V : InvR r) {s : Int} (h : r 0 < 8) (hs : 1 ≤ s ∧ s ≤ 9) : InvR (up1 (up1 r (64 + r 0) s) 0 (r 0 + 1)) := by
  have V1 := V.1
  refine ⟨?_, ?_, ?_, ?_, ?_, ?_, ?_⟩
  · simp (disch := omega) only [up1_ne, up1_eq]
    omega
  · intro d d0 d1
    simp (disch := omega) only [up1_ne, up1_eq] at d1
    simp (disch := omega) only [up1_ne, up1_eq]
    have q := V.2.1 d d0 (by omega)
    omega
  · intro d e d0 d1 d2
    simp (disch := omega) only [up1_ne, up1_eq] at d2
    simp (disch := omega) only [up1_ne, up1_eq]
    have q := V.2.2.1 d e d0 d1 (by omega)
    omega
  · intro d d0 d1
    simp (disch := omega) only [up1_ne, up1_eq]
    have q := V.2.2.2.1 d d0 d1
    omega
  · intro d d0 d1
    rw [up1_eq] at d1
    by_cases e : d = r 0
    · subst e
      rw [up1_ne (by omega), up1_eq]
      exact hs
    · rw [up1_ne (by omega), up1_ne (by omega)]
      exact V.2.2.2.2.1 d d0 (by omega)
  · intro d d0 d1
    simp (disch := omega) only [up1_ne, up1_eq] at d1
    simp (disch := omega) only [up1_ne, up1_eq]
    have q := V.2.2.2.2.2.1 d d0 (by omega)
    omega
  · intro i i0 i1
    rw [lawC_eq (r := r) i0 (fun j hj => by simp (disch := omega) only [up1_ne])]
    exact V.2.2.2.2.2.2 i i0 i1

theorem InvR.foe {r : Int → Int} (V : InvR r) {s : Int} (h : r 2 < 8) (hs : 1 ≤ s ∧ s ≤ 9) : InvR (up1 (up1 r (129 + r 2) s) 2 (r 2 + 1)) := by
  have V1 := V.1
  refine ⟨?_, ?_, ?_, ?_, ?_, ?_, ?_⟩
  · simp (disch := omega) only [up1_ne, up1_eq]
    omega
  · intro d d0 d1
    simp (disch := omega) only [up1_ne, up1_eq] at d1
    simp (disch := omega) only [up1_ne, up1_eq]
    have q := V.2.1 d d0 (by omega)
    omega
  · intro d e d0 d1 d2
    simp (disch := omega) only [up1_ne, up1_eq] at d2
    simp (disch := omega) only [up1_ne, up1_eq]
    have q := V.2.2.1 d e d0 d1 (by omega)
    omega
  · intro d d0 d1
    simp (disch := omega) only [up1_ne, up1_eq]
    have q := V.2.2.2.1 d d0 d1
    omega
  · intro d d0 d1
    simp (disch := omega) only [up1_ne, up1_eq] at d1
    simp (disch := omega) only [up1_ne, up1_eq]
    have q := V.2.2.2.2.1 d d0 (by omega)
    omega
  · intro d d0 d1
    rw [up1_eq] at d1
    by_cases e : d = r 2
    · subst e
      rw [up1_ne (by omega), up1_eq]
      exact hs
    · rw [up1_ne (by omega), up1_ne (by omega)]
      exact V.2.2.2.2.2.1 d d0 (by omega)
  · intro i i0 i1
    rw [lawC_eq (r := r) i0 (fun j hj => by simp (disch := omega) only [up1_ne])]
    exact V.2.2.2.2.2.2 i i0 i1

theorem InvR.peace {r : Int → Int} (V : InvR r)  : InvR (up1 r 2 0) := by
  have V1 := V.1
  refine ⟨?_, ?_, ?_, ?_, ?_, ?_, ?_⟩
  · simp (disch := omega) only [up1_ne, up1_eq]
    omega
  · intro d d0 d1
    simp (disch := omega) only [up1_ne, up1_eq] at d1
    simp (disch := omega) only [up1_ne, up1_eq]
    have q := V.2.1 d d0 (by omega)
    omega
  · intro d e d0 d1 d2
    simp (disch := omega) only [up1_ne, up1_eq] at d2
    simp (disch := omega) only [up1_ne, up1_eq]
    have q := V.2.2.1 d e d0 d1 (by omega)
    omega
  · intro d d0 d1
    simp (disch := omega) only [up1_ne, up1_eq]
    have q := V.2.2.2.1 d d0 d1
    omega
  · intro d d0 d1
    simp (disch := omega) only [up1_ne, up1_eq] at d1
    simp (disch := omega) only [up1_ne, up1_eq]
    have q := V.2.2.2.2.1 d d0 (by omega)
    omega
  · intro d d0 d1
    rw [up1_eq] at d1
    omega
  · intro i i0 i1
    rw [lawC_eq (r := r) i0 (fun j hj => by simp (disch := omega) only [up1_ne])]
    exact V.2.2.2.2.2.2 i i0 i1

theorem InvR.force {r : Int → Int} (V : InvR r) {v : Int} (hv : -1 ≤ v ∧ (v < r 3 ∨ v = -1)) : InvR (up1 r 4 v) := by
  have V1 := V.1
  refine ⟨?_, ?_, ?_, ?_, ?_, ?_, ?_⟩
  · simp (disch := omega) only [up1_ne, up1_eq]
    omega
  · intro d d0 d1
    simp (disch := omega) only [up1_ne, up1_eq] at d1
    simp (disch := omega) only [up1_ne, up1_eq]
    have q := V.2.1 d d0 (by omega)
    omega
  · intro d e d0 d1 d2
    simp (disch := omega) only [up1_ne, up1_eq] at d2
    simp (disch := omega) only [up1_ne, up1_eq]
    have q := V.2.2.1 d e d0 d1 (by omega)
    omega
  · intro d d0 d1
    simp (disch := omega) only [up1_ne, up1_eq]
    have q := V.2.2.2.1 d d0 d1
    omega
  · intro d d0 d1
    simp (disch := omega) only [up1_ne, up1_eq] at d1
    simp (disch := omega) only [up1_ne, up1_eq]
    have q := V.2.2.2.2.1 d d0 (by omega)
    omega
  · intro d d0 d1
    simp (disch := omega) only [up1_ne, up1_eq] at d1
    simp (disch := omega) only [up1_ne, up1_eq]
    have q := V.2.2.2.2.2.1 d d0 (by omega)
    omega
  · intro i i0 i1
    rw [lawC_eq (r := r) i0 (fun j hj => by simp (disch := omega) only [up1_ne])]
    exact V.2.2.2.2.2.2 i i0 i1

theorem InvR.day {r : Int → Int} (V : InvR r) {v : Int} (hv : 0 ≤ v ∧ v ≤ 999) : InvR (up1 r 5 v) := by
  have V1 := V.1
  refine ⟨?_, ?_, ?_, ?_, ?_, ?_, ?_⟩
  · simp (disch := omega) only [up1_ne, up1_eq]
    omega
  · intro d d0 d1
    simp (disch := omega) only [up1_ne, up1_eq] at d1
    simp (disch := omega) only [up1_ne, up1_eq]
    have q := V.2.1 d d0 (by omega)
    omega
  · intro d e d0 d1 d2
    simp (disch := omega) only [up1_ne, up1_eq] at d2
    simp (disch := omega) only [up1_ne, up1_eq]
    have q := V.2.2.1 d e d0 d1 (by omega)
    omega
  · intro d d0 d1
    simp (disch := omega) only [up1_ne, up1_eq]
    have q := V.2.2.2.1 d d0 d1
    omega
  · intro d d0 d1
    simp (disch := omega) only [up1_ne, up1_eq] at d1
    simp (disch := omega) only [up1_ne, up1_eq]
    have q := V.2.2.2.2.1 d d0 (by omega)
    omega
  · intro d d0 d1
    simp (disch := omega) only [up1_ne, up1_eq] at d1
    simp (disch := omega) only [up1_ne, up1_eq]
    have q := V.2.2.2.2.2.1 d d0 (by omega)
    omega
  · intro i i0 i1
    rw [lawC_eq (r := r) i0 (fun j hj => by simp (disch := omega) only [up1_ne])]
    exact V.2.2.2.2.2.2 i i0 i1

theorem InvR.mood {r : Int → Int} (V : InvR r) {v : Int} (hv : 0 ≤ v ∧ v ≤ 9) : InvR (up1 r 6 v) := by
  have V1 := V.1
  refine ⟨?_, ?_, ?_, ?_, ?_, ?_, ?_⟩
  · simp (disch := omega) only [up1_ne, up1_eq]
    omega
  · intro d d0 d1
    simp (disch := omega) only [up1_ne, up1_eq] at d1
    simp (disch := omega) only [up1_ne, up1_eq]
    have q := V.2.1 d d0 (by omega)
    omega
  · intro d e d0 d1 d2
    simp (disch := omega) only [up1_ne, up1_eq] at d2
    simp (disch := omega) only [up1_ne, up1_eq]
    have q := V.2.2.1 d e d0 d1 (by omega)
    omega
  · intro d d0 d1
    simp (disch := omega) only [up1_ne, up1_eq]
    have q := V.2.2.2.1 d d0 d1
    omega
  · intro d d0 d1
    simp (disch := omega) only [up1_ne, up1_eq] at d1
    simp (disch := omega) only [up1_ne, up1_eq]
    have q := V.2.2.2.2.1 d d0 (by omega)
    omega
  · intro d d0 d1
    simp (disch := omega) only [up1_ne, up1_eq] at d1
    simp (disch := omega) only [up1_ne, up1_eq]
    have q := V.2.2.2.2.2.1 d d0 (by omega)
    omega
  · intro i i0 i1
    rw [lawC_eq (r := r) i0 (fun j hj => by simp (disch := omega) only [up1_ne])]
    exact V.2.2.2.2.2.2 i i0 i1

theorem InvR.fish {r : Int → Int} (V : InvR r) {c v : Int} (hc : 0 ≤ c ∧ c < 25) (hv : 0 ≤ v ∧ v ≤ 99) : InvR (up1 r (39 + c) v) := by
  have V1 := V.1
  refine ⟨?_, ?_, ?_, ?_, ?_, ?_, ?_⟩
  · simp (disch := omega) only [up1_ne, up1_eq]
    omega
  · intro d d0 d1
    simp (disch := omega) only [up1_ne, up1_eq] at d1
    simp (disch := omega) only [up1_ne, up1_eq]
    have q := V.2.1 d d0 (by omega)
    omega
  · intro d e d0 d1 d2
    simp (disch := omega) only [up1_ne, up1_eq] at d2
    simp (disch := omega) only [up1_ne, up1_eq]
    have q := V.2.2.1 d e d0 d1 (by omega)
    omega
  · intro d d0 d1
    have q := V.2.2.2.1 d d0 d1
    rw [up1_ne (by omega : 104 + d ≠ 39 + c)]
    by_cases e : d = c
    · subst e
      rw [up1_eq]
      omega
    · rw [up1_ne (by omega)]
      exact q
  · intro d d0 d1
    simp (disch := omega) only [up1_ne, up1_eq] at d1
    simp (disch := omega) only [up1_ne, up1_eq]
    have q := V.2.2.2.2.1 d d0 (by omega)
    omega
  · intro d d0 d1
    simp (disch := omega) only [up1_ne, up1_eq] at d1
    simp (disch := omega) only [up1_ne, up1_eq]
    have q := V.2.2.2.2.2.1 d d0 (by omega)
    omega
  · intro i i0 i1
    rw [lawC_eq (r := r) i0 (fun j hj => by simp (disch := omega) only [up1_ne])]
    exact V.2.2.2.2.2.2 i i0 i1

theorem InvR.drift {r : Int → Int} (V : InvR r) {c v : Int} (hc : 0 ≤ c ∧ c < 25) (hv : 0 ≤ v ∧ v ≤ 4) : InvR (up1 r (104 + c) v) := by
  have V1 := V.1
  refine ⟨?_, ?_, ?_, ?_, ?_, ?_, ?_⟩
  · simp (disch := omega) only [up1_ne, up1_eq]
    omega
  · intro d d0 d1
    simp (disch := omega) only [up1_ne, up1_eq] at d1
    simp (disch := omega) only [up1_ne, up1_eq]
    have q := V.2.1 d d0 (by omega)
    omega
  · intro d e d0 d1 d2
    simp (disch := omega) only [up1_ne, up1_eq] at d2
    simp (disch := omega) only [up1_ne, up1_eq]
    have q := V.2.2.1 d e d0 d1 (by omega)
    omega
  · intro d d0 d1
    have q := V.2.2.2.1 d d0 d1
    rw [up1_ne (by omega : 39 + d ≠ 104 + c)]
    by_cases e : d = c
    · subst e
      rw [up1_eq]
      omega
    · rw [up1_ne (by omega)]
      exact q
  · intro d d0 d1
    simp (disch := omega) only [up1_ne, up1_eq] at d1
    simp (disch := omega) only [up1_ne, up1_eq]
    have q := V.2.2.2.2.1 d d0 (by omega)
    omega
  · intro d d0 d1
    simp (disch := omega) only [up1_ne, up1_eq] at d1
    simp (disch := omega) only [up1_ne, up1_eq]
    have q := V.2.2.2.2.2.1 d d0 (by omega)
    omega
  · intro i i0 i1
    rw [lawC_eq (r := r) i0 (fun j hj => by simp (disch := omega) only [up1_ne])]
    exact V.2.2.2.2.2.2 i i0 i1
