/-! PURE: arrays of small numbers, by their naturals -/
def nf (f : Nat → Nat) : Nat → Int32 := fun k => nI (f k)
def un {α : Type} (f : Nat → α) (k : Nat) (x : α) : Nat → α := fun j => if j = k then x else f j
theorem nf_at (f : Nat → Nat) (k : Nat) : nf f k = nI (f k) := rfl
theorem nf_upd (f : Nat → Nat) (k x : Nat) : upd (nf f) k (nI x) = nf (un f k x) := by
  funext j
  by_cases h : j = k
  · simp [upd, nf, un, h]
  · simp [upd, nf, un, h]
theorem un_s {α : Type} {f : Nat → α} {k : Nat} {x : α} : un f k x k = x := if_pos rfl
theorem un_n {α : Type} {f : Nat → α} {k j : Nat} {x : α} (h : j ≠ k) : un f k x j = f j := if_neg h
theorem un_le {f : Nat → Nat} {k x n : Nat} (h : ∀ j, f j ≤ n) (hx : x ≤ n) : ∀ j, un f k x j ≤ n := fun j => by
  unfold un; split
  · exact hx
  · exact h j
theorem sub_le0 {a b : Nat} (ha : a < 2 ^ 30) (hb : b < 2 ^ 30) : nI a - nI b ≤ 0 ↔ a ≤ b := by
  rw [Int32.le_iff_toInt_le, pk_sub_toInt ha hb, Int32.toInt_zero]; omega
theorem sub_gt0 {a b : Nat} (ha : a < 2 ^ 30) (hb : b < 2 ^ 30) : 0 < nI a - nI b ↔ b < a := by
  rw [Int32.lt_iff_toInt_lt, pk_sub_toInt ha hb, Int32.toInt_zero]; omega
/-- a channel, evened -/
def evN (d w v : Nat) : Nat := if w ≤ d ∨ v ≤ d then 0 else min 255 (256 * (v - d) / (w - d))
theorem evN_le (d w v : Nat) : evN d w v ≤ 255 := by
  unfold evN; split
  · omega
  · exact Nat.min_le_left _ _
/-- the row of now -/
def rwN (dn wn vn : Nat → Nat) : Nat → Nat := fun k => evN (dn k) (wn k) (vn k)
/-- f, but up to n as g -/
def fu {α : Type} (g f : Nat → α) (n : Nat) : Nat → α := fun k => if k < n then g k else f k
theorem fu_0 {α : Type} {g f : Nat → α} : fu g f 0 = f := by
  funext k; simp [fu]
theorem fu_s {α : Type} {g f : Nat → α} {n : Nat} : un (fu g f n) n (g n) = fu g f (n + 1) := by
  funext k
  unfold un fu
  by_cases h : k = n
  · subst h; simp
  · by_cases h2 : k < n
    · simp [h, h2, Nat.lt_succ_of_lt h2]
    · simp [h, h2, show ¬ k < n + 1 by omega]
theorem fu_lt {α : Type} {g f : Nat → α} {n k : Nat} (h : k < n) : fu g f n k = g k := if_pos h
theorem fu_ge {α : Type} {g f : Nat → α} {n k : Nat} (h : n ≤ k) : fu g f n k = f k := if_neg (by omega)
theorem fu_fu {α : Type} {g f : Nat → α} {n : Nat} : fu g (fu g f n) n = fu g f n := by
  funext k; unfold fu; split <;> rfl
theorem lp_e {i n : Nat} {N : Int32} (c : N ≤ nI i) (hi : i ≤ n) (hN : N = nI n := by rfl) (hn : n < 2 ^ 31 := by omega) : n = i := by
  subst hN
  have := (nI_leI hn (by omega)).mp c
  omega
theorem lp_l {i n : Nat} {N : Int32} (c : ¬ N ≤ nI i) (hi : i ≤ n) (hN : N = nI n := by rfl) (hn : n < 2 ^ 31 := by omega) : i < n := by
  subst hN
  rcases Nat.lt_or_ge i n with h | h
  · exact h
  · exact absurd (nI_le h (by omega)) c
theorem evN_min {d w v : Nat} (h1 : d < w) (h2 : d < v) (h3 : 256 * (v - d) < 2 ^ 31) : (if nI (256 * (v - d) / (w - d)) < 255 then nI (256 * (v - d) / (w - d)) else 255) = nI (evN d w v) := by
  have hq : 256 * (v - d) / (w - d) < 2 ^ 31 := Nat.lt_of_le_of_lt (Nat.div_le_self _ _) h3
  have he : evN d w v = min 255 (256 * (v - d) / (w - d)) := by
    unfold evN
    rw [if_neg (by omega)]
  rw [he]
  generalize 256 * (v - d) / (w - d) = q at hq
  by_cases h : q < 255
  · have h' : nI q < (255 : Int32) := (nI_ltI (b := 255) hq (by omega)).mpr h
    rw [if_pos h', Nat.min_eq_right (by omega)]
  · have h' : ¬ nI q < (255 : Int32) := fun z => h ((nI_ltI (b := 255) hq (by omega)).mp z)
    rw [if_neg h', Nat.min_eq_left (by omega)]
    rfl
theorem upd_un (f : Nat → Int32) (k : Nat) (x : Int32) : upd f k x = un f k x := rfl
theorem fu_nf {g f : Nat → Nat} {n : Nat} : fu (nf g) (nf f) n = nf (fu g f n) := by
  funext k
  show (if k < n then nI (g k) else nI (f k)) = nI (if k < n then g k else f k)
  split <;> rfl
theorem gt_le {x : Int32} (h : (255 : Int32) < x) : nI 256 ≤ x := by
  rw [Int32.lt_iff_toInt_lt, show (255 : Int32).toInt = 255 from by decide] at h
  rw [Int32.le_iff_toInt_le, nI_toInt (by omega)]; omega
theorem ngt_nle {x : Int32} (h : ¬ (255 : Int32) < x) : ¬ nI 256 ≤ x := by
  rw [Int32.lt_iff_toInt_lt, show (255 : Int32).toInt = 255 from by decide] at h
  rw [Int32.le_iff_toInt_le, nI_toInt (by omega)]; omega
theorem fu_same {α : Type} {g f : Nat → α} {n : Nat} (h : g n = f n) : fu g f (n + 1) = fu g f n := by
  funext k
  unfold fu
  by_cases h1 : k < n
  · simp [h1, Nat.lt_succ_of_lt h1]
  · by_cases h2 : k = n
    · subst h2; simp [h]
    · simp [h1, show ¬ k < n + 1 by omega]
/-- sums, counts -/
def sumN (f : Nat → Nat) : Nat → Nat
  | 0 => 0
  | k + 1 => sumN f k + f k
def cnt (P : Nat → Bool) : Nat → Nat
  | 0 => 0
  | k + 1 => cnt P k + (if P k then 1 else 0)
theorem cnt_le (P : Nat → Bool) (n : Nat) : cnt P n ≤ n := by
  induction n with
  | zero => exact Nat.le_refl _
  | succ n ih => unfold cnt; split <;> omega
theorem cnt_mono {P Q : Nat → Bool} (h : ∀ i, P i = true → Q i = true) (n : Nat) : cnt P n ≤ cnt Q n := by
  induction n with
  | zero => exact Nat.le_refl _
  | succ n ih =>
    unfold cnt
    by_cases hp : P n = true
    · rw [if_pos hp, if_pos (h n hp)]; omega
    · rw [if_neg hp]; omega
theorem sumN_le {f : Nat → Nat} {m : Nat} (h : ∀ k, f k ≤ m) (n : Nat) : sumN f n ≤ m * n := by
  induction n with
  | zero => exact Nat.le_refl _
  | succ n ih => unfold sumN; have := h n; rw [Nat.mul_succ]; omega
/-- cells of a row -/
def ceN (f : Nat → Nat) : Nat → Nat := fun k => (f (k + 1) + 256 - f k) / 64
theorem ceN_lt {f : Nat → Nat} (h : ∀ k, f k ≤ 255) (k : Nat) : ceN f k < 8 := by
  unfold ceN; have := h (k + 1); omega
/-- the rows of a kind, but the one left out -/
def okR (kn : Nat → Nat) (kd : Nat) (w : Int32) : Nat → Bool := fun i => decide (kn i = kd) && !decide (nI i = w)
def samR (kn : Nat → Nat) (C : Nat → Nat → Nat) (fc : Nat → Nat) (kd : Nat) (w : Int32) (k : Nat) : Nat → Bool := fun i => okR kn kd w i && decide (fc k = C i k)
/-- THE SUM of a kind for a row of cells fc -/
def SUM (kn : Nat → Nat) (C : Nat → Nat → Nat) (fc : Nat → Nat) (kd : Nat) (w : Int32) (n : Nat) : Nat := sumN (fun k => if cnt (okR kn kd w) n = 0 then 0 else cnt (samR kn C fc kd w k) n * 1000 / cnt (okR kn kd w) n) 7
/-- packed bytes -/
def pbN (K n : Nat) (kn : Nat → Nat) (M : Nat → Nat → Nat) (i : Nat) : Nat := if i = 0 then K else if i = 1 then n else if (i - 2) % 9 = 0 then kn ((i - 2) / 9) else M ((i - 2) / 9) ((i - 2) % 9 - 1)
def pkN (K n : Nat) (kn : Nat → Nat) (M : Nat → Nat → Nat) (x : Int32) : Int32 := if inB x (3 + 9 * n) then (if x.toNatClampNeg < 2 + 9 * n then nI (pbN K n kn M x.toNatClampNeg) else nI (sumN (pbN K n kn M) (2 + 9 * n) % 256)) else -1
/-- what can be opened -/
def fitP (K : Nat) (F : Nat → Nat) (len : Nat) : Prop := 3 ≤ len ∧ F 0 = K ∧ F 1 ≤ 40 ∧ len = 3 + 9 * F 1 ∧ (∀ t, t < F 1 → F (2 + 9 * t) < K) ∧ F (2 + 9 * F 1) = sumN F (2 + 9 * F 1) % 256
/-- the pool of the taught rows, and of their cells -/
def pr (cI : ClassId) (ar : Nat → Nat) (M : Nat → Nat → Nat) : va_W := (List.range 40).map (fun i => (ar i, .inl (cI, 8, .inl (nf (M i)))))
def pq (cI : ClassId) (ac : Nat → Nat) (C : Nat → Nat → Nat) : va_W := (List.range 40).map (fun i => (ac i, .inl (cI, 7, .inl (nf (C i)))))
def og (ar : Nat → Nat) : Nat → Option Nat := fun i => if i < 40 then some (ar i) else none
theorem og_at {ar : Nat → Nat} {i : Nat} (h : i < 40) : og ar i = some (ar i) := if_pos h
theorem og_nI {ar : Nat → Nat} {i : Nat} (h : i < 40) : og ar (nI i).toNatClampNeg = some (ar i) := by rw [nI_clamp (by omega)]; exact if_pos h
theorem pr_len {cI : ClassId} {ar : Nat → Nat} {M : Nat → Nat → Nat} : (pr cI ar M).length = 40 := by simp [pr]
theorem pr_get {cI : ClassId} {ar : Nat → Nat} {M : Nat → Nat → Nat} {T : va_W} {i : Nat} (h : i < 40) : (pr cI ar M ++ T)[i]? = some (ar i, .inl (cI, 8, .inl (nf (M i)))) := by
  rw [List.getElem?_append_left (by rw [pr_len]; exact h)]
  simp [pr, h]
theorem pq_len {cI : ClassId} {ac : Nat → Nat} {C : Nat → Nat → Nat} : (pq cI ac C).length = 40 := by simp [pq]
theorem pq_get0 {cI : ClassId} {ac : Nat → Nat} {C : Nat → Nat → Nat} {T : va_W} {i : Nat} (h : i < 40) : (pq cI ac C ++ T)[i]? = some (ac i, .inl (cI, 7, .inl (nf (C i)))) := by
  rw [List.getElem?_append_left (by rw [pq_len]; exact h)]
  simp [pq, h]
theorem pq_get {cI : ClassId} {ar ac : Nat → Nat} {M C : Nat → Nat → Nat} {T : va_W} {i : Nat} (h : i < 40) : (pr cI ar M ++ (pq cI ac C ++ T))[i + 40]? = some (ac i, .inl (cI, 7, .inl (nf (C i)))) := by
  rw [List.getElem?_append_right (by rw [pr_len]; omega), pr_len, Nat.add_sub_cancel]
  exact pq_get0 h
theorem un_i {α : Type} {M : Nat → α} {i j : Nat} {r : α} : un M i r j = if j = i then r else M j := rfl
theorem mp_set {α β : Type} {N i : Nat} {F : Nat → α → β} {M : Nat → α} {r : α} (h : i < N) : ((List.range N).map (fun j => F j (M j))).set i (F i r) = (List.range N).map (fun j => F j (un M i r j)) := by
  apply List.ext_getElem?
  intro j
  rw [List.getElem?_set]
  by_cases hj : j < N
  · by_cases e : i = j
    · subst e
      simp [hj, un]
    · simp [hj, un, e, Ne.symm e]
  · by_cases e : i = j
    · omega
    · simp [hj, e]
theorem pr_set {cI : ClassId} {ar : Nat → Nat} {M : Nat → Nat → Nat} {T : va_W} {i : Nat} {r : Nat → Nat} (h : i < 40) : (pr cI ar M ++ T).set i (ar i, .inl (cI, 8, .inl (nf r))) = pr cI ar (un M i r) ++ T := by
  rw [List.set_append_left _ _ (by rw [pr_len]; exact h)]
  exact congrArg (· ++ T) (mp_set (F := fun j r => ((ar j, .inl (cI, 8, .inl (nf r))) : Nat × va_E)) h)
theorem pq_set0 {cI : ClassId} {ac : Nat → Nat} {C : Nat → Nat → Nat} {T : va_W} {i : Nat} {r : Nat → Nat} (h : i < 40) : (pq cI ac C ++ T).set i (ac i, .inl (cI, 7, .inl (nf r))) = pq cI ac (un C i r) ++ T := by
  rw [List.set_append_left _ _ (by rw [pq_len]; exact h)]
  exact congrArg (· ++ T) (mp_set (F := fun j r => ((ac j, .inl (cI, 7, .inl (nf r))) : Nat × va_E)) h)
theorem pq_set {cI : ClassId} {ar ac : Nat → Nat} {M C : Nat → Nat → Nat} {T : va_W} {i : Nat} {r : Nat → Nat} (h : i < 40) : (pr cI ar M ++ (pq cI ac C ++ T)).set (i + 40) (ac i, .inl (cI, 7, .inl (nf r))) = pr cI ar M ++ (pq cI ac (un C i r) ++ T) := by
  rw [List.set_append_right _ _ (by rw [pr_len]; omega), pr_len, Nat.add_sub_cancel, pq_set0 h]
/-- places of a world that is set -/
theorem sl_eq {wl : va_W} {q : Nat} {x e : Nat × va_E} (h : wl[q]? = some x) : (wl.set q e)[q]? = some e := by
  have := (List.getElem?_eq_some_iff.mp h).1
  simp [this]
theorem sl_ne {wl : va_W} {q k : Nat} {x e : Nat × va_E} (hq : q ≠ k) (h : wl[k]? = some x) : (wl.set q e)[k]? = some x := by
  rw [List.getElem?_set_ne hq]; exact h
theorem sl_self {wl : va_W} {q : Nat} {e : Nat × va_E} (h : wl[q]? = some e) : wl.set q e = wl := by
  apply List.ext_getElem?
  intro j
  by_cases hj : q = j
  · subst hj; rw [sl_eq h, h]
  · rw [List.getElem?_set_ne hj]
