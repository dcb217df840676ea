theorem ce_num {a b : Nat} (h : b ≤ 255) : nI a - nI b + 256 = nI (a + 256 - b) := by
  rw [Int32.sub_eq_add_neg, Int32.add_assoc, Int32.add_comm (-nI b), ← Int32.sub_eq_add_neg, show (256 : Int32) = nI 256 from rfl, pk_sub (by omega), nI_add]
  exact congrArg nI (by omega)
theorem cpy_row {F Mt : Nat → Nat} {first : Nat} (h : first < 2 ^ 31) : va_cpy (nf F) (nf Mt) (nI first).toNatClampNeg (0 : Int32).toNatClampNeg (8 : Int32).toNatClampNeg = nf (fu (fun k => F (first + k)) Mt 8) := by
  rw [nI_clamp h, show (0 : Int32).toNatClampNeg = 0 from rfl, show (8 : Int32).toNatClampNeg = 8 from rfl]
  funext k
  show (if 0 ≤ k ∧ k < 0 + 8 then nI (F (first + (k - 0))) else nI (Mt k)) = nI (if k < 8 then F (first + k) else Mt k)
  by_cases hk : k < 8
  · rw [if_pos ⟨Nat.zero_le _, by omega⟩, if_pos hk, Nat.sub_zero]
  · rw [if_neg (by omega), if_neg hk]
theorem fu_le {F Mt : Nat → Nat} {first n m : Nat} (hF : ∀ k, F k ≤ m) (hM : ∀ k, Mt k ≤ m) : ∀ k, fu (fun k => F (first + k)) Mt n k ≤ m := fun k => by
  unfold fu; split
  · exact hF _
  · exact hM k
