/-! PURE: arrays of small numbers, by their naturals -/
def nf (f : Nat → Nat) : Nat → Int32 := fun k => nI (f k)
def un {α : Type} (f : Nat → α) (k : Nat) (x : α) : Nat → α := fun j => if j = k then x else f j
theorem nf_at (f : Nat → Nat) (k : Nat) : nf f k = nI (f k) := rfl
theorem nf_upd (f : Nat → Nat) (k x : Nat) : upd (nf f) k (nI x) = nf (un f k x) := by
  funext j
  by_cases h : j = k
  · simp [upd, nf, un, h]
  · simp [upd, nf, un, h]
theorem un_s {α : Type} {f : Nat → α} {k : Nat} {x : α} : un f k x k = x := if_pos rfl
theorem un_n {α : Type} {f : Nat → α} {k j : Nat} {x : α} (h : j ≠ k) : un f k x j = f j := if_neg h
theorem un_le {f : Nat → Nat} {k x n : Nat} (h : ∀ j, f j ≤ n) (hx : x ≤ n) : ∀ j, un f k x j ≤ n := fun j => by
  unfold un; split
  · exact hx
  · exact h j
theorem sub_le0 {a b : Nat} (ha : a < 2 ^ 30) (hb : b < 2 ^ 30) : nI a - nI b ≤ 0 ↔ a ≤ b := by
  rw [Int32.le_iff_toInt_le, pk_sub_toInt ha hb, Int32.toInt_zero]; omega
theorem sub_gt0 {a b : Nat} (ha : a < 2 ^ 30) (hb : b < 2 ^ 30) : 0 < nI a - nI b ↔ b < a := by
  rw [Int32.lt_iff_toInt_lt, pk_sub_toInt ha hb, Int32.toInt_zero]; omega
/-- a channel, evened -/
def evN (d w v : Nat) : Nat := if w ≤ d ∨ v ≤ d then 0 else min 255 (256 * (v - d) / (w - d))
theorem evN_le (d w v : Nat) : evN d w v ≤ 255 := by
  unfold evN; split
  · omega
  · exact Nat.min_le_left _ _
/-- the row of now -/
def rwN (dn wn vn : Nat → Nat) : Nat → Nat := fun k => evN (dn k) (wn k) (vn k)
/-- f, but up to n as g -/
def fu {α : Type} (g f : Nat → α) (n : Nat) : Nat → α := fun k => if k < n then g k else f k
theorem fu_0 {α : Type} {g f : Nat → α} : fu g f 0 = f := by
  funext k; simp [fu]
theorem fu_s {α : Type} {g f : Nat → α} {n : Nat} : un (fu g f n) n (g n) = fu g f (n + 1) := by
  funext k
  unfold un fu
  by_cases h : k = n
  · subst h; simp
  · by_cases h2 : k < n
    · simp [h, h2, Nat.lt_succ_of_lt h2]
    · simp [h, h2, show ¬ k < n + 1 by omega]
theorem fu_lt {α : Type} {g f : Nat → α} {n k : Nat} (h : k < n) : fu g f n k = g k := if_pos h
theorem fu_ge {α : Type} {g f : Nat → α} {n k : Nat} (h : n ≤ k) : fu g f n k = f k := if_neg (by omega)
theorem fu_fu {α : Type} {g f : Nat → α} {n : Nat} : fu g (fu g f n) n = fu g f n := by
  funext k; unfold fu; split <;> rfl
theorem lp_e {i n : Nat} {N : Int32} (c : N ≤ nI i) (hi : i ≤ n) (hN : N = nI n := by rfl) (hn : n < 2 ^ 31 := by omega) : i = n := by
  subst hN
  have := (nI_leI hn (by omega)).mp c
  omega
theorem lp_l {i n : Nat} {N : Int32} (c : ¬ N ≤ nI i) (hi : i ≤ n) (hN : N = nI n := by rfl) (hn : n < 2 ^ 31 := by omega) : i < n := by
  subst hN
  rcases Nat.lt_or_ge i n with h | h
  · exact h
  · exact absurd (nI_le h (by omega)) c
theorem evN_min {d w v : Nat} (h1 : d < w) (h2 : d < v) (h3 : 256 * (v - d) < 2 ^ 31) : (if nI (256 * (v - d) / (w - d)) < 255 then nI (256 * (v - d) / (w - d)) else 255) = nI (evN d w v) := by
  have hq : 256 * (v - d) / (w - d) < 2 ^ 31 := Nat.lt_of_le_of_lt (Nat.div_le_self _ _) h3
  have he : evN d w v = min 255 (256 * (v - d) / (w - d)) := by
    unfold evN
    rw [if_neg (by omega)]
  rw [he]
  generalize 256 * (v - d) / (w - d) = q at hq
  by_cases h : q < 255
  · rw [if_pos ((nI_ltI (b := 255) hq (by omega)).mpr h), Nat.min_eq_right (by omega)]
  · rw [if_neg (fun z => h ((nI_ltI (b := 255) hq (by omega)).mp z)), Nat.min_eq_left (by omega)]
    rfl
