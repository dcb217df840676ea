theorem fit_of {K fc : Nat} {F : Nat → Nat} (h : (3 ≤ fc ∧ F 0 = K ∧ F 1 ≤ 40 ∧ fc = 3 + 9 * F 1) ∧ F (fc - 1) = sumN F (fc - 1) % 256) (h2 : ∀ j, j < F 1 → F (2 + 9 * j) < K) : fitP K F fc := by
  obtain ⟨⟨a, b, c, d⟩, e⟩ := h
  refine ⟨a, b, c, d, h2, ?_⟩
  rw [show fc - 1 = 2 + 9 * F 1 by omega] at e
  exact e
theorem fit_to {K fc : Nat} {F : Nat → Nat} (h : fitP K F fc) : (3 ≤ fc ∧ F 0 = K ∧ F 1 ≤ 40 ∧ fc = 3 + 9 * F 1) ∧ F (fc - 1) = sumN F (fc - 1) % 256 := by
  obtain ⟨a, b, c, d, -, e⟩ := h
  refine ⟨⟨a, b, c, d⟩, ?_⟩
  rw [show fc - 1 = 2 + 9 * F 1 by omega]
  exact e
