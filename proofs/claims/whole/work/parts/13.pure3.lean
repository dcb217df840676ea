theorem pb_0 {K n : Nat} {kn : Nat → Nat} {M : Nat → Nat → Nat} {i : Nat} (h : i = 0) : pbN K n kn M i = K := by simp [pbN, h]
theorem pb_1 {K n : Nat} {kn : Nat → Nat} {M : Nat → Nat → Nat} {i : Nat} (h : i = 1) : pbN K n kn M i = n := by simp [pbN, h]
theorem pb_k {K n : Nat} {kn : Nat → Nat} {M : Nat → Nat → Nat} {i : Nat} (h : 2 ≤ i) (h2 : (i - 2) % 9 = 0) : pbN K n kn M i = kn ((i - 2) / 9) := by
  unfold pbN; rw [if_neg (by omega), if_neg (by omega), if_pos h2]
theorem pb_m {K n : Nat} {kn : Nat → Nat} {M : Nat → Nat → Nat} {i : Nat} (h : 2 ≤ i) (h2 : ¬ (i - 2) % 9 = 0) : pbN K n kn M i = M ((i - 2) / 9) ((i - 2) % 9 - 1) := by
  unfold pbN; rw [if_neg (by omega), if_neg (by omega), if_neg h2]
theorem pk_lo {K n : Nat} {kn : Nat → Nat} {M : Nat → Nat → Nat} {j : Nat} (hn : n ≤ 40) (h : j < 2 + 9 * n) : nI (pbN K n kn M j) = pkN K n kn M (nI j) := by
  unfold pkN; rw [if_pos (inB_nI (by omega) (by omega)), nI_clamp (by omega), if_pos h]
theorem pk_hi {K n : Nat} {kn : Nat → Nat} {M : Nat → Nat → Nat} {j : Nat} (hn : n ≤ 40) (h : j = 2 + 9 * n) : nI (sumN (pbN K n kn M) (2 + 9 * n) % 256) = pkN K n kn M (nI j) := by
  unfold pkN; rw [if_pos (inB_nI (by omega) (by omega)), nI_clamp (by omega), if_neg (by omega)]
theorem pk_ng {K n : Nat} {kn : Nat → Nat} {M : Nat → Nat → Nat} {x : Int32} (h : x < 0) : -1 = pkN K n kn M x := by
  unfold pkN; rw [inB_f1 h]; rfl
theorem pk_ou {K n : Nat} {kn : Nat → Nat} {M : Nat → Nat → Nat} {x : Int32} (hn : n ≤ 40) (h : ¬ x ≤ nI (2 + 9 * n)) : -1 = pkN K n kn M x := by
  unfold pkN
  rw [Int32.le_iff_toInt_le, nI_toInt (by omega)] at h
  rw [inB_f2 (by omega) (by rw [Int32.le_iff_toInt_le, nI_toInt (by omega)]; omega)]; rfl
/-- rows and cells out of fed bytes -/
def ldM (F : Nat → Nat) (M : Nat → Nat → Nat) : Nat → Nat → Nat := fun t => fu (fun k => F (2 + 9 * t + 1 + k)) (M t) 8
def ldC (F : Nat → Nat) (M C : Nat → Nat → Nat) : Nat → Nat → Nat := fun t => fu (ceN (ldM F M t)) (C t) 7
def ldK (F : Nat → Nat) : Nat → Nat := fun t => F (2 + 9 * t)
theorem ldM_s {F : Nat → Nat} {M : Nat → Nat → Nat} {i : Nat} : un (fu (ldM F M) M i) i (fu (fun k => F (2 + 9 * i + 1 + k)) (fu (ldM F M) M i i) 8) = fu (ldM F M) M (i + 1) := by
  rw [fu_ge (Nat.le_refl i)]
  exact fu_s (g := ldM F M)
theorem ldC_s {F : Nat → Nat} {M C : Nat → Nat → Nat} {i : Nat} : un (fu (ldC F M C) C i) i (fu (ceN (fu (fun k => F (2 + 9 * i + 1 + k)) (fu (ldM F M) M i i) 8)) (fu (ldC F M C) C i i) 7) = fu (ldC F M C) C (i + 1) := by
  rw [fu_ge (f := M) (Nat.le_refl i), fu_ge (f := C) (Nat.le_refl i)]
  exact fu_s (g := ldC F M C)
theorem ldM_le {F : Nat → Nat} {M : Nat → Nat → Nat} (hF : ∀ k, F k ≤ 255) (hM : ∀ i k, M i k ≤ 255) (n : Nat) : ∀ i k, fu (ldM F M) M n i k ≤ 255 := fun i k => by
  unfold fu
  split
  · unfold ldM fu
    dsimp only
    split
    · exact hF _
    · exact hM _ _
  · exact hM _ _
theorem min40 {a : Nat} (h : a ≤ 40) : (if nI a < 40 then nI a else 40) = nI a := by
  by_cases h2 : a < 40
  · exact if_pos ((nI_ltI (b := 40) (by omega) (by omega)).mpr h2)
  · have h3 : ¬ nI a < (40 : Int32) := fun z => h2 ((nI_ltI (b := 40) (by omega) (by omega)).mp z)
    rw [if_neg h3]
    rw [show a = 40 by omega]; rfl
theorem lt2 {i n : Nat} {N : Int32} (c : ¬ N ≤ nI i) (hi : i < 2 ^ 31) (hN : N = nI n := by rfl) (hn : n < 2 ^ 31 := by omega) : i < n := by
  subst hN
  rcases Nat.lt_or_ge i n with h | h
  · exact h
  · exact absurd (nI_le h hi) c
