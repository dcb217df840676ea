/-! MODEL, pure: pieces by sweeps -/
def ofB (lb : Nat → Nat) (x y : Int32) (q : Nat) : Bool := (inB x 16 && inB y 16) && decide (lb (plc x y) = q + 1)
def besB (lb : Nat → Nat) (x y : Int32) (q : Nat) : Bool := ofB lb (x - 1) y q || ofB lb (x + 1) y q || ofB lb x (y - 1) q || ofB lb x (y + 1) q
def swS (kd : Nat → Nat) (q : Nat) (lb : Nat → Nat) : Nat → (Nat → Nat) × Bool
  | 0 => (lb, false)
  | p + 1 => if 2 ≤ kd p ∧ (swS kd q lb p).1 p = 0 ∧ besB (swS kd q lb p).1 (nI (p % 16)) (nI (p / 16)) q = true then (un (swS kd q lb p).1 p (q + 1), true) else swS kd q lb p
def sprd (kd : Nat → Nat) (q : Nat) : Nat → (Nat → Nat) → (Nat → Nat)
  | 0, lb => lb
  | f + 1, lb => if (swS kd q lb 256).2 = true then sprd kd q f (swS kd q lb 256).1 else (swS kd q lb 256).1
def zer (lb : Nat → Nat) : Nat → Bool := fun p => decide (lb p = 0)
theorem sw_y {kd : Nat → Nat} {q : Nat} {lb : Nat → Nat} {x y : Nat} (hx : x < 16) (h : 2 ≤ kd (16 * y + x)) (h2 : (swS kd q lb (16 * y + x)).1 (16 * y + x) = 0) (h3 : besB (swS kd q lb (16 * y + x)).1 (nI x) (nI y) q = true) : (un (swS kd q lb (16 * y + x)).1 (16 * y + x) (q + 1), true) = swS kd q lb (16 * y + x + 1) := by
  conv => rhs; unfold swS
  rw [if_pos ⟨h, h2, by rw [show (16 * y + x) % 16 = x by omega, show (16 * y + x) / 16 = y by omega]; exact h3⟩]
theorem sw_n {kd : Nat → Nat} {q : Nat} {lb : Nat → Nat} {x y : Nat} (hx : x < 16) (h : ¬ (2 ≤ kd (16 * y + x) ∧ (swS kd q lb (16 * y + x)).1 (16 * y + x) = 0 ∧ besB (swS kd q lb (16 * y + x)).1 (nI x) (nI y) q = true)) : swS kd q lb (16 * y + x) = swS kd q lb (16 * y + x + 1) := by
  conv => rhs; unfold swS
  rw [if_neg (by rw [show (16 * y + x) % 16 = x by omega, show (16 * y + x) / 16 = y by omega]; exact h)]
theorem sw_le {kd : Nat → Nat} {q : Nat} {lb : Nat → Nat} (hq : q + 1 ≤ 256) (h : ∀ p, lb p ≤ 256) : ∀ i p, (swS kd q lb i).1 p ≤ 256
  | 0, p => h p
  | i + 1, p => by
    unfold swS
    split
    · exact un_le (sw_le hq h i) hq p
    · exact sw_le hq h i p
/-- zeros only become fewer; where something was written, fewer by one at least -/
theorem cnt_un {P : Nat → Bool} {p n : Nat} (hp : p < n) (h : P p = true) : cnt (un P p false) n + 1 = cnt P n := by
  induction n with
  | zero => omega
  | succ n ih =>
    show cnt (un P p false) n + (if un P p false n then 1 else 0) + 1 = cnt P n + (if P n then 1 else 0)
    by_cases e : p = n
    · subst e
      rw [un_s, h]
      have : cnt (un P p false) p = cnt P p := cnt_congr p (fun i hi => un_n (by omega))
      rw [this]; rfl
    · rw [un_n (Ne.symm e)]
      have := ih (by omega)
      omega
theorem zer_un {lb : Nat → Nat} {p v : Nat} (hv : 1 ≤ v) : zer (un lb p v) = un (zer lb) p false := by
  funext j
  unfold zer un
  by_cases h : j = p
  · simp [h]; omega
  · simp [h]
theorem sw_zer {kd : Nat → Nat} {q : Nat} {lb : Nat → Nat} : ∀ i, i ≤ 256 → cnt (zer (swS kd q lb i).1) 256 ≤ cnt (zer lb) 256 ∧ ((swS kd q lb i).2 = true → cnt (zer (swS kd q lb i).1) 256 < cnt (zer lb) 256)
  | 0, _ => ⟨Nat.le_refl _, fun h => by cases h⟩
  | i + 1, hi => by
    have ih := sw_zer (kd := kd) (q := q) (lb := lb) i (by omega)
    unfold swS
    split
    · rename_i hc
      have : cnt (zer (un (swS kd q lb i).1 i (q + 1))) 256 + 1 = cnt (zer (swS kd q lb i).1) 256 := by
        rw [zer_un (by omega)]
        exact cnt_un (by omega) (decide_eq_true hc.2.1)
      exact ⟨by show cnt (zer (un _ _ _)) 256 ≤ _; omega, fun _ => by show cnt (zer (un _ _ _)) 256 < _; omega⟩
    · exact ih
theorem sp_t {kd : Nat → Nat} {q f : Nat} {lb : Nat → Nat} (h : (swS kd q lb 256).2 = true) : sprd kd q (f + 1) lb = sprd kd q f (swS kd q lb 256).1 := if_pos h
theorem sp_f {kd : Nat → Nat} {q f : Nat} {lb : Nat → Nat} (h : (swS kd q lb 256).2 = false) : sprd kd q (f + 1) lb = (swS kd q lb 256).1 := if_neg (by rw [h]; exact Bool.false_ne_true)
theorem sp_le {kd : Nat → Nat} {q : Nat} (hq : q + 1 ≤ 256) : ∀ f lb, (∀ p, lb p ≤ 256) → ∀ p, sprd kd q f lb p ≤ 256
  | 0, _, h => h
  | f + 1, lb, h => by
    unfold sprd
    split
    · exact sp_le hq f _ (sw_le hq h 256)
    · exact sw_le hq h 256
/-- all places up to i -/
def fnS (kd lb0 : Nat → Nat) : Nat → (Nat → Nat) × Nat
  | 0 => (lb0, 0)
  | i + 1 => if 2 ≤ kd i ∧ (fnS kd lb0 i).1 i = 0 then (sprd kd (fnS kd lb0 i).2 257 (un (fnS kd lb0 i).1 i ((fnS kd lb0 i).2 + 1)), (fnS kd lb0 i).2 + 1) else fnS kd lb0 i
theorem fn_cnt (kd lb0 : Nat → Nat) : ∀ i, (fnS kd lb0 i).2 ≤ i
  | 0 => Nat.le_refl _
  | i + 1 => by
    have := fn_cnt kd lb0 i
    unfold fnS
    split
    · show _ + 1 ≤ _; omega
    · omega
theorem fn_le {kd lb0 : Nat → Nat} (h : ∀ p, lb0 p ≤ 256) : ∀ i, i ≤ 256 → ∀ p, (fnS kd lb0 i).1 p ≤ 256
  | 0, _ => h
  | i + 1, hi => by
    have h1 := fn_le (kd := kd) h i (by omega)
    have h2 := fn_cnt kd lb0 i
    unfold fnS
    split
    · exact sp_le (by omega) _ _ (un_le h1 (by omega))
    · exact h1
theorem fn_s {kd lb0 : Nat → Nat} {i : Nat} (h1 : 2 ≤ kd i) (h2 : (fnS kd lb0 i).1 i = 0) : fnS kd lb0 (i + 1) = (sprd kd (fnS kd lb0 i).2 257 (un (fnS kd lb0 i).1 i ((fnS kd lb0 i).2 + 1)), (fnS kd lb0 i).2 + 1) := by
  conv => lhs; unfold fnS
  rw [if_pos ⟨h1, h2⟩]
theorem fn_n {kd lb0 : Nat → Nat} {i : Nat} (h : ¬ (2 ≤ kd i ∧ (fnS kd lb0 i).1 i = 0)) : fnS kd lb0 i = fnS kd lb0 (i + 1) := by
  conv => rhs; unfold fnS
  rw [if_neg h]
def FN (kd lb : Nat → Nat) : (Nat → Nat) × Nat := fnS kd (fu (fun _ => 0) lb 256) 256
theorem l1_clr (f : Nat → Nat) (i : Nat) : upd (l1 f) i (-1) = l1 (un f i 0) := by
  funext j
  by_cases h : j = i
  · simp [upd, l1, un, h]; decide
  · simp [upd, l1, un, h]
theorem l1_ge {a : Nat} (ha : a < 2 ^ 30) : 0 ≤ nI a - 1 ↔ ¬ a = 0 := by
  rw [Int32.le_iff_toInt_le, show (1 : Int32) = nI 1 from rfl, pk_sub_toInt ha (by omega), Int32.toInt_zero]; omega
theorem fM_st2 {N : Nat → Nat → Nat} {g m : Nat → Nat} {t k : Nat} (hk : k < 8) : un (fM (un N t (fu g m k))) (8 * t + k) (g k) = fM (un N t (fu g m (k + 1))) := by
  rw [fM_up hk, un_un, un_s, fu_s]
theorem ld_0 {F : Nat → Nat} {M : Nat → Nat → Nat} {t : Nat} {g : Nat → Nat} : un (fu (ldM F M) M t) t (fu g (M t) 0) = fu (ldM F M) M t := by
  rw [fu_0]
  have h : fu (ldM F M) M t t = M t := fu_ge (Nat.le_refl t)
  conv => lhs; rw [← h]
  exact un_self
theorem ld_8 {F : Nat → Nat} {M : Nat → Nat → Nat} {t : Nat} : un (fu (ldM F M) M t) t (fu (fun k => F (2 + 9 * t + 1 + k)) (M t) 8) = fu (ldM F M) M (t + 1) := fu_s (g := ldM F M)
/-- near pieces -/
def nearD (lb : Nat → Nat) (x y o : Nat) : Nat → Bool → Bool
  | 0, b => b
  | d + 1, b => nearD lb x y o d b || ofB lb (nI x + nI (d % 3) - 1) (nI y + nI (d / 3) - 1) o
def nearP (lb : Nat → Nat) (q o : Nat) : Nat → Bool
  | 0 => false
  | p + 1 => if ofB lb (nI (p % 16)) (nI (p / 16)) q = true then nearD lb (p % 16) (p / 16) o 9 (nearP lb q o p) else nearP lb q o p
theorem nr_y {lb : Nat → Nat} {q o x y : Nat} (hx : x < 16) (h : ofB lb (nI x) (nI y) q = true) : nearD lb x y o 9 (nearP lb q o (16 * y + x)) = nearP lb q o (16 * y + x + 1) := by
  conv => rhs; unfold nearP
  rw [show (16 * y + x) % 16 = x by omega, show (16 * y + x) / 16 = y by omega, if_pos h]
theorem nr_n {lb : Nat → Nat} {q o x y : Nat} (hx : x < 16) (h : ofB lb (nI x) (nI y) q = false) : nearP lb q o (16 * y + x) = nearP lb q o (16 * y + x + 1) := by
  conv => rhs; unfold nearP
  rw [show (16 * y + x) % 16 = x by omega, show (16 * y + x) / 16 = y by omega, h]; rfl
def nbM (lb : Nat → Nat) (q : Nat) : Nat → Bool := fun o => !decide (o = q) && nearP lb q o 256
theorem MI_lb {K n : Nat} {dn wn vn kn : Nat → Nat} {M : Nat → Nat → Nat} {kd : Nat → Nat} {px : Nat} {F : Nat → Nat} {fc : Nat} {rw lb lb' : Nat → Nat} (h : MI K n dn wn vn kn M kd px F fc rw lb) (h1 : ∀ p, lb' p ≤ 256) : MI K n dn wn vn kn M kd px F fc rw lb' := by
  obtain ⟨a, b, c, d, e, f, g⟩ := h
  exact ⟨a, b, c, d, ⟨e.1, e.2.1, h1⟩, f, g⟩
theorem if_le {b : Bool} {f : Nat} : (if b = true then f else 0) ≤ f := by split <;> omega
theorem clr_le {lb : Nat → Nat} {n : Nat} (h : ∀ p, lb p ≤ 256) : ∀ p, fu (fun _ => 0) lb n p ≤ 256 := fun p => by
  unfold fu; split
  · exact Nat.zero_le _
  · exact h p
theorem FN_le {kd lb : Nat → Nat} (h : ∀ p, lb p ≤ 256) : ∀ p, (FN kd lb).1 p ≤ 256 := fn_le (clr_le h) 256 (Nat.le_refl _)
theorem FN_cnt (kd lb : Nat → Nat) : (FN kd lb).2 ≤ 256 := fn_cnt _ _ 256
theorem pos_le {a : Nat} (h : a < 2 ^ 31) (c : ¬ (0 : Int32) < nI a) : a = 0 := by
  have := mt (nI_ltI (a := 0) (b := a) (by omega) h).mpr c
  omega
theorem pos_lt {a : Nat} (h : a < 2 ^ 31) (c : (0 : Int32) < nI a) : ¬ a = 0 := by
  have := (nI_ltI (a := 0) (b := a) (by omega) h).mp c
  omega
theorem free_f1 {kd : Nat → Nat} {px : Nat} {x y : Int32} (h : (inB x 16 && inB y 16) = false) : free kd px x y = false := by unfold free; rw [h]; rfl
theorem free_f2 {kd : Nat → Nat} {px a b : Nat} (ha : a < 16) (hb : b < 16) (h : ¬ kd (16 * b + a) = 0) : free kd px (nI a) (nI b) = false := by
  unfold free; rw [plc_nI ha hb, decide_eq_false h, Bool.and_false]
theorem free_f3 {kd : Nat → Nat} {px : Nat} {x y : Int32} (h : ¬ px < 100) : free kd px x y = false := by
  unfold free; rw [decide_eq_false h, Bool.and_false]; rfl
theorem free_t {kd : Nat → Nat} {px a b : Nat} (ha : a < 16) (hb : b < 16) (h : kd (16 * b + a) = 0) (hp : px < 100) : free kd px (nI a) (nI b) = true := by
  unfold free; rw [plc_nI ha hb, isPl_t ha hb, decide_eq_true h, decide_eq_true hp]; rfl
theorem two_add {v : Nat} : (2 : Int32) + (nI v - 2) = nI v := by
  rw [Int32.add_comm, Int32.sub_add_cancel]
theorem two_k {k : Nat} : nI k + 2 = nI (k + 2) := nI_add k 2
