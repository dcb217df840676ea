theorem ce_num {a b : Nat} (h : b ≤ 255) : nI a - nI b + 256 = nI (a + 256 - b) := by
  rw [Int32.sub_eq_add_neg, Int32.add_assoc, Int32.add_comm (-nI b), ← Int32.sub_eq_add_neg, show (256 : Int32) = nI 256 from rfl, pk_sub (by omega), nI_add]
  exact congrArg nI (by omega)
theorem cpy_row {F Mt : Nat → Nat} {first : Nat} (h : first < 2 ^ 31) : va_cpy (nf F) (nf Mt) (nI first).toNatClampNeg (0 : Int32).toNatClampNeg (8 : Int32).toNatClampNeg = nf (fu (fun k => F (first + k)) Mt 8) := by
  rw [nI_clamp h, show (0 : Int32).toNatClampNeg = 0 from rfl, show (8 : Int32).toNatClampNeg = 8 from rfl]
  funext k
  show (if 0 ≤ k ∧ k < 0 + 8 then nI (F (first + (k - 0))) else nI (Mt k)) = nI (if k < 8 then F (first + k) else Mt k)
  by_cases hk : k < 8
  · rw [if_pos ⟨Nat.zero_le _, by omega⟩, if_pos hk, Nat.sub_zero]
  · rw [if_neg (by omega), if_neg hk]
theorem fu_le {F Mt : Nat → Nat} {first n m : Nat} (hF : ∀ k, F k ≤ m) (hM : ∀ k, Mt k ≤ m) : ∀ k, fu (fun k => F (first + k)) Mt n k ≤ m := fun k => by
  unfold fu; split
  · exact hF _
  · exact hM k
theorem cnt_s {P : Nat → Bool} {i : Nat} (h : P i = true) : cnt P (i + 1) = cnt P i + 1 := by
  show cnt P i + (if P i then 1 else 0) = _
  rw [if_pos h]
theorem cnt_n {P : Nat → Bool} {i : Nat} (h : P i = false) : cnt P i = cnt P (i + 1) := by
  show _ = cnt P i + (if P i then 1 else 0)
  rw [h]; rfl
theorem okR_t {kn : Nat → Nat} {kd : Nat} {w : Int32} {i : Nat} (h1 : kn i = kd) (h2 : ¬ nI i = w) : okR kn kd w i = true := by
  simp [okR, h1, h2]
theorem okR_f1 {kn : Nat → Nat} {kd : Nat} {w : Int32} {i : Nat} (h1 : ¬ kn i = kd) : okR kn kd w i = false := by
  simp [okR, h1]
theorem okR_f2 {kn : Nat → Nat} {kd : Nat} {w : Int32} {i : Nat} (h2 : nI i = w) : okR kn kd w i = false := by
  simp [okR, h2]
/-- the counts of equal cells, up to the row i -/
def alk (kn : Nat → Nat) (C : Nat → Nat → Nat) (fc al : Nat → Nat) (kd : Nat) (w : Int32) (i : Nat) : Nat → Nat := fu (fun k => cnt (samR kn C fc kd w k) i) al 7
theorem alk_0 {kn : Nat → Nat} {C : Nat → Nat → Nat} {fc al : Nat → Nat} {kd : Nat} {w : Int32} : fu (fun _ => (0 : Int32)) (nf al) 7 = nf (alk kn C fc al kd w 0) := by
  funext k
  show (if k < 7 then (0 : Int32) else nI (al k)) = nI (if k < 7 then 0 else al k)
  split <;> rfl
theorem alk_n {kn : Nat → Nat} {C : Nat → Nat → Nat} {fc al : Nat → Nat} {kd : Nat} {w : Int32} {i : Nat} (h : okR kn kd w i = false) : alk kn C fc al kd w i = alk kn C fc al kd w (i + 1) := by
  unfold alk
  congr 1
  funext k
  exact cnt_n (by simp [samR, h])
theorem alk_s {kn : Nat → Nat} {C : Nat → Nat → Nat} {fc al : Nat → Nat} {kd : Nat} {w : Int32} {i : Nat} (h : okR kn kd w i = true) : fu (fun k => alk kn C fc al kd w i k + (if fc k = C i k then 1 else 0)) (alk kn C fc al kd w i) 7 = alk kn C fc al kd w (i + 1) := by
  funext k
  unfold alk fu
  by_cases hk : k < 7
  · simp only [hk, if_true]
    show _ = cnt (samR kn C fc kd w k) i + (if samR kn C fc kd w k i then 1 else 0)
    simp [samR, h]
  · simp [hk]
theorem alk_at {kn : Nat → Nat} {C : Nat → Nat → Nat} {fc al : Nat → Nat} {kd : Nat} {w : Int32} {i k : Nat} (hk : k < 7) : alk kn C fc al kd w i k = cnt (samR kn C fc kd w k) i := fu_lt hk
/-- the sum's part up to k -/
def sumK (kn : Nat → Nat) (C : Nat → Nat → Nat) (fc : Nat → Nat) (kd : Nat) (w : Int32) (n k : Nat) : Nat := sumN (fun k => if cnt (okR kn kd w) n = 0 then 0 else cnt (samR kn C fc kd w k) n * 1000 / cnt (okR kn kd w) n) k
theorem sumK_s {kn : Nat → Nat} {C : Nat → Nat → Nat} {fc : Nat → Nat} {kd : Nat} {w : Int32} {n k : Nat} (h : ¬ cnt (okR kn kd w) n = 0) : sumK kn C fc kd w n k + cnt (samR kn C fc kd w k) n * 1000 / cnt (okR kn kd w) n = sumK kn C fc kd w n (k + 1) := by
  show _ = sumK kn C fc kd w n k + (if cnt (okR kn kd w) n = 0 then 0 else cnt (samR kn C fc kd w k) n * 1000 / cnt (okR kn kd w) n)
  rw [if_neg h]
theorem SUM_0 {kn : Nat → Nat} {C : Nat → Nat → Nat} {fc : Nat → Nat} {kd : Nat} {w : Int32} {n : Nat} (h : cnt (okR kn kd w) n = 0) : SUM kn C fc kd w n = 0 := by
  unfold SUM
  simp [h, sumN]
theorem samR_le {kn : Nat → Nat} {C : Nat → Nat → Nat} {fc : Nat → Nat} {kd : Nat} {w : Int32} {k n : Nat} : cnt (samR kn C fc kd w k) n ≤ n := cnt_le _ _
/-- a packed byte is below 256 -/
theorem pbN_le {K n : Nat} {kn : Nat → Nat} {M : Nat → Nat → Nat} (hK : K ≤ 255) (hn : n ≤ 255) (hk : ∀ i, kn i ≤ 255) (hM : ∀ i k, M i k ≤ 255) (i : Nat) : pbN K n kn M i ≤ 255 := by
  unfold pbN
  split
  · exact hK
  · split
    · exact hn
    · split
      · exact hk _
      · exact hM _ _
