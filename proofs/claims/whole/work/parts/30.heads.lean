/-! HEADS, pure -/
def lf (sc : Nat → Nat) : Nat → Int64 := fun k => lN (sc k)
theorem lf_upd (f : Nat → Nat) (k x : Nat) : vp_updL (lf f) k (lN x) = lf (un f k x) := by
  funext j
  by_cases h : j = k
  · simp [vp_updL, lf, un, h]
  · simp [vp_updL, lf, un, h]
/-- a channel's number is set, where there is one such and it is a byte -/
def setN (x y : Int32) (f : Nat → Nat) : Nat → Nat := if (inB x 8 && inB y 256) = true then un f x.toNatClampNeg y.toNatClampNeg else f
theorem setN_t {a b : Nat} {f : Nat → Nat} (ha : a < 8) (hb : b < 256) : un f a b = setN (nI a) (nI b) f := by
  unfold setN; rw [inB_nI ha (by omega), inB_nI hb (by omega), nI_clamp (by omega), nI_clamp (by omega)]; rfl
theorem setN_f1 {x y : Int32} {f : Nat → Nat} (h : inB x 8 = false) : f = setN x y f := by unfold setN; rw [h]; rfl
theorem setN_f2 {x y : Int32} {f : Nat → Nat} (h : inB y 256 = false) : f = setN x y f := by unfold setN; rw [h, Bool.and_false]; rfl
theorem setN_le {x y : Int32} {f : Nat → Nat} (h : ∀ k, f k ≤ 255) : ∀ k, setN x y f k ≤ 255 := by
  unfold setN
  split
  · rename_i hc
    rw [Bool.and_eq_true] at hc
    obtain ⟨b, hb, rfl⟩ := inB_of hc.2 (by omega)
    rw [nI_clamp (by omega)]
    exact un_le h (by omega)
  · exact h
/-- the white at a tick -/
def refN (x y : Int32) (t : Int64) (wn : Nat → Nat) (tk : Int64) : (Nat → Nat) × Int64 := if ((inB x 8 && inB y 256) && decide (tk < t)) = true then (un wn x.toNatClampNeg y.toNatClampNeg, t) else (wn, tk)
theorem refN_t {a b : Nat} {t tk : Int64} {wn : Nat → Nat} (ha : a < 8) (hb : b < 256) : (if tk < t then (un wn a b, t) else (wn, tk)) = refN (nI a) (nI b) t wn tk := by
  unfold refN; rw [inB_nI ha (by omega), inB_nI hb (by omega), nI_clamp (by omega), nI_clamp (by omega)]; simp
theorem refN_f1 {x y : Int32} {t tk : Int64} {wn : Nat → Nat} (h : inB x 8 = false) : (wn, tk) = refN x y t wn tk := by unfold refN; rw [h]; rfl
theorem refN_f2 {x y : Int32} {t tk : Int64} {wn : Nat → Nat} (h : inB y 256 = false) : (wn, tk) = refN x y t wn tk := by unfold refN; rw [h, Bool.and_false]; rfl
def bdB (v : Int64) : Bool := !decide (v < 0) && decide (v ≤ 10000)
def wtB (v : Int64) : Bool := !decide (v < 0) && decide (v ≤ 1000000)
theorem bdB_t {v : Int64} (h1 : ¬ v < 0) (h2 : v ≤ 10000) : bdB v = true := by simp [bdB, h1, h2]
theorem bdB_f1 {v : Int64} (h1 : v < 0) : bdB v = false := by simp [bdB, h1]
theorem bdB_f2 {v : Int64} (h2 : ¬ v ≤ 10000) : bdB v = false := by simp [bdB, h2]
theorem wtB_t {v : Int64} (h1 : ¬ v < 0) (h2 : v ≤ 1000000) : wtB v = true := by simp [wtB, h1, h2]
theorem wtB_f1 {v : Int64} (h1 : v < 0) : wtB v = false := by simp [wtB, h1]
theorem wtB_f2 {v : Int64} (h2 : ¬ v ≤ 1000000) : wtB v = false := by simp [wtB, h2]
/-- the kind chosen: by score, then by worth, then the least -/
def grN (sc : Nat → Nat) (wo : Nat → Int64) : Nat → Nat
  | 0 => 0
  | k + 1 => if k = 0 then 0 else if sc (grN sc wo k) < sc k ∨ (sc k = sc (grN sc wo k) ∧ wo (grN sc wo k) < wo k) then k else grN sc wo k
theorem grN_lt {sc : Nat → Nat} {wo : Nat → Int64} : ∀ k, 1 ≤ k → grN sc wo k < k
  | 0, h => by omega
  | 1, _ => by simp [grN]
  | k + 2, _ => by
    have := grN_lt (sc := sc) (wo := wo) (k + 1) (by omega)
    unfold grN
    rw [if_neg (by omega)]
    split
    · omega
    · omega
theorem grN_t {sc : Nat → Nat} {wo : Nat → Int64} {k : Nat} (hk : 1 ≤ k) (h : sc (grN sc wo k) < sc k ∨ (sc k = sc (grN sc wo k) ∧ wo (grN sc wo k) < wo k)) : k = grN sc wo (k + 1) := by
  conv => rhs; unfold grN
  rw [if_neg (by omega), if_pos h]
theorem grN_f {sc : Nat → Nat} {wo : Nat → Int64} {k : Nat} (hk : 1 ≤ k) (h : ¬ (sc (grN sc wo k) < sc k ∨ (sc k = sc (grN sc wo k) ∧ wo (grN sc wo k) < wo k))) : grN sc wo k = grN sc wo (k + 1) := by
  conv => rhs; unfold grN
  rw [if_neg (by omega), if_neg h]
theorem grN_congr {sc sc' : Nat → Nat} {wo : Nat → Int64} : ∀ K, (∀ k, k < K → sc k = sc' k) → grN sc wo K = grN sc' wo K
  | 0, _ => rfl
  | 1, _ => rfl
  | k + 2, h => by
    have ih := grN_congr (wo := wo) (k + 1) (fun j hj => h j (by omega))
    have hl := grN_lt (sc := sc') (wo := wo) (k + 1) (by omega)
    conv => lhs; unfold grN
    conv => rhs; unfold grN
    rw [ih, h (grN sc' wo (k + 1)) (by omega), h (k + 1) (by omega)]
/-- a row reads -/
def rdN (sc : Nat → Nat) (wo : Nat → Int64) (le : Int64) (K : Nat) : Int32 := if lN (sc (grN sc wo K)) < le then -1 else nI (grN sc wo K)
def RD (kn : Nat → Nat) (C : Nat → Nat → Nat) (fc : Nat → Nat) (w : Int32) (n : Nat) (wo : Nat → Int64) (le : Int64) (K : Nat) : Int32 := rdN (fun k => SUM kn C fc k w n) wo le K
theorem RD_of {kn : Nat → Nat} {C : Nat → Nat → Nat} {fc : Nat → Nat} {w : Int32} {n : Nat} {wo : Nat → Int64} {le : Int64} {K : Nat} {sc : Nat → Nat} (hK : 1 ≤ K) (h : ∀ k, k < K → sc k = SUM kn C fc k w n) : rdN sc wo le K = RD kn C fc w n wo le K := by
  unfold RD rdN
  rw [grN_congr (sc' := fun k => SUM kn C fc k w n) K h, h _ (grN_lt K hK)]
theorem SUM_le {kn : Nat → Nat} {C : Nat → Nat → Nat} {fc : Nat → Nat} {kd : Nat} {w : Int32} {n : Nat} : SUM kn C fc kd w n ≤ 7000 := by
  unfold SUM
  refine Nat.le_trans (sumN_le (m := 1000) (fun k => ?_) 7) (by omega)
  split
  · omega
  · rename_i h
    refine Nat.div_le_of_le_mul ?_
    have : cnt (samR kn C fc kd w k) n ≤ cnt (okR kn kd w) n := cnt_mono (fun i hi => by unfold samR at hi; rw [Bool.and_eq_true] at hi; exact hi.1) n
    exact Nat.mul_le_mul_right 1000 this
/-- other cells behind the pool, and back -/
theorem sw_P {D : va_G} {cl : List vw_C} {Xt Xo p q R : va_W} {H : Heap} (h : va_P D cl ((Xt ++ Xo) ++ (p ++ (q ++ R))) H) : va_P D cl (Xt ++ (p ++ (q ++ (R ++ Xo)))) H := by
  have := h.swap
  simpa [List.append_assoc] using this
theorem sw_D {A : Nat → Prop} {Xt Xo p q R : va_W} (h : va_D A ((Xt ++ Xo) ++ (p ++ (q ++ R)))) : va_D A (Xt ++ (p ++ (q ++ (R ++ Xo)))) := by
  have := h.swap
  simpa [List.append_assoc] using this
theorem ws_P {D : va_G} {cl : List vw_C} {Xt Xo p q R : va_W} {H : Heap} (h : va_P D cl (Xt ++ (p ++ (q ++ (R ++ Xo)))) H) : va_P D cl ((Xt ++ Xo) ++ (p ++ (q ++ R))) H := by
  have h2 : va_P D cl ((Xt ++ (p ++ (q ++ R))) ++ Xo) H := by simpa [List.append_assoc] using h
  exact h2.swap
theorem ws_D {A : Nat → Prop} {Xt Xo p q R : va_W} (h : va_D A (Xt ++ (p ++ (q ++ (R ++ Xo))))) : va_D A ((Xt ++ Xo) ++ (p ++ (q ++ R))) := by
  have h2 : va_D A ((Xt ++ (p ++ (q ++ R))) ++ Xo) := by simpa [List.append_assoc] using h
  exact h2.swap
theorem tl_get {cI : ClassId} {ar ac : Nat → Nat} {M C : Nat → Nat → Nat} {R Xo : va_W} (k : Nat) {x : Nat × va_E} (h : Xo[k]? = some x) : (pr cI ar M ++ (pq cI ac C ++ (R ++ Xo)))[80 + R.length + k]? = some x := by
  rw [List.getElem?_append_right (by rw [pr_len]; omega), pr_len, List.getElem?_append_right (by rw [pq_len]; omega), pq_len, List.getElem?_append_right (by omega)]
  rw [show 80 + R.length + k - 40 - 40 - R.length = k by omega]
  exact h
/-- what holds of a state of the heads -/
def HI (K n : Nat) (dn wn vn kn : Nat → Nat) (M C : Nat → Nat → Nat) (kd : Nat → Nat) (px pcs : Nat) (bt : Bst) (F : Nat → Nat) (fc : Nat) (nr nc : Nat → Nat) : Prop :=
  (1 ≤ K ∧ K ≤ 4) ∧ n ≤ 40 ∧ ((∀ k, dn k ≤ 255) ∧ (∀ k, wn k ≤ 255) ∧ (∀ k, vn k ≤ 255)) ∧ ((∀ i, kn i ≤ 255) ∧ (∀ i k, M i k ≤ 255) ∧ (∀ i k, C i k < 8)) ∧ ((∀ p, kd p ≤ 6) ∧ px ≤ 100 ∧ pcs ≤ 256 ∧ Bok bt) ∧ ((∀ k, F k ≤ 255) ∧ fc ≤ 400) ∧ ((∀ k, nr k ≤ 255) ∧ (∀ k, nc k < 8))
theorem gr_loc {ls : Array Slot} {nL i k g : Nat} {rest : List (Nat × Value)} (h : lv_has ls nL ((i, .int (nI k)) :: rest)) (e : k = g) : lv_has ls nL ((i, .int (nI g)) :: rest) := by
  subst e; exact h
