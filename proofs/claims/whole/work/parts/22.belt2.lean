theorem inB_vp {x : Int32} {n : Nat} (h : inB x n = true) : vp_in x n := by
  unfold inB at h
  simp at h
  exact vp_in_iff.mpr ⟨h.1, by omega⟩
theorem j1_s (j : Nat) : nI j - 1 + 1 = nI (j + 1) - 1 := by
  rw [add_sub1, Int32.sub_add_cancel]
theorem metP_s {lb : Nat → Nat} {q : Nat} {me : Nat → Nat} {p : Nat} (h : lb p = q + 1) : metI lb (nI (p % 16)) (nI (p / 16)) 3 (metP lb q me p) = metP lb q me (p + 1) := (if_pos h).symm
theorem metP_n {lb : Nat → Nat} {q : Nat} {me : Nat → Nat} {p : Nat} (h : ¬ lb p = q + 1) : metP lb q me p = metP lb q me (p + 1) := (if_neg h).symm
theorem nbN_n {lb : Nat → Nat} {q : Nat} {me : Nat → Nat} {o : Nat} (h : ¬ o = q) : nbN lb q me o + metP lb q me 256 o = nbN lb q me (o + 1) := by
  show _ = nbN lb q me o + (if o = q then 0 else metP lb q me 256 o)
  rw [if_neg h]
theorem nbN_s {lb : Nat → Nat} {q : Nat} {me : Nat → Nat} {o : Nat} (h : o = q) : nbN lb q me o + 0 = nbN lb q me (o + 1) := by
  show _ = nbN lb q me o + (if o = q then 0 else metP lb q me 256 o)
  rw [if_pos h]
