theorem nr_le {dn wn vn nr : Nat → Nat} {n : Nat} (h : ∀ k, nr k ≤ 255) : ∀ k, fu (rwN dn wn vn) nr n k ≤ 255 := fun k => by
  unfold fu; split
  · exact evN_le _ _ _
  · exact h k
theorem nc_lt {f nc : Nat → Nat} {n : Nat} (hf : ∀ k, f k ≤ 255) (h : ∀ k, nc k < 8) : ∀ k, fu (ceN f) nc n k < 8 := fun k => by
  unfold fu; split
  · exact ceN_lt hf k
  · exact h k
theorem HI_now {K n : Nat} {dn wn vn kn : Nat → Nat} {M C : Nat → Nat → Nat} {kd : Nat → Nat} {px pcs : Nat} {bt : Bst} {F : Nat → Nat} {fc : Nat} {nr nc nr' nc' : Nat → Nat} (h : HI K n dn wn vn kn M C kd px pcs bt F fc nr nc) (h1 : ∀ k, nr' k ≤ 255) (h2 : ∀ k, nc' k < 8) : HI K n dn wn vn kn M C kd px pcs bt F fc nr' nc' := by
  obtain ⟨a, b, c, d, e, f, -⟩ := h
  exact ⟨a, b, c, d, e, f, h1, h2⟩
theorem l_nle {a b : Int64} (h : ¬ b ≤ a) : a < b := by
  rw [Int64.le_iff_toInt_le] at h; rw [Int64.lt_iff_toInt_lt]; omega
theorem rd_t {sc : Nat → Nat} {wo : Nat → Int64} {le : Int64} {K : Nat} (h : ¬ lN (sc (grN sc wo K)) < le) : nI (grN sc wo K) = rdN sc wo le K := (if_neg h).symm
theorem rd_f {sc : Nat → Nat} {wo : Nat → Int64} {le : Int64} {K : Nat} (h : lN (sc (grN sc wo K)) < le) : -1 = rdN sc wo le K := (if_pos h).symm
theorem row_eq {g nr m : Nat → Nat} : fu (fun k => fu g nr 8 (0 + k)) m 8 = fu g m 8 := by
  funext k
  unfold fu
  by_cases h : k < 8
  · simp [h]
  · simp [h]
/-- the kind of a pixel, as the belt holds it -/
def rdv (sc : Nat → Nat) (wo : Nat → Int64) (le : Int64) (K : Nat) : Nat := if lN (sc (grN sc wo K)) < le then 1 else grN sc wo K + 2
def RDV (kn : Nat → Nat) (C : Nat → Nat → Nat) (fc : Nat → Nat) (w : Int32) (n : Nat) (wo : Nat → Int64) (le : Int64) (K : Nat) : Nat := rdv (fun k => SUM kn C fc k w n) wo le K
theorem RD_eq {kn : Nat → Nat} {C : Nat → Nat → Nat} {fc : Nat → Nat} {w : Int32} {n : Nat} {wo : Nat → Int64} {le : Int64} {K : Nat} : RD kn C fc w n wo le K = nI (RDV kn C fc w n wo le K) - 2 := by
  unfold RD RDV rdN rdv
  split
  · rfl
  · exact (add_sub2 _).symm
theorem RDV_le {kn : Nat → Nat} {C : Nat → Nat → Nat} {fc : Nat → Nat} {w : Int32} {n : Nat} {wo : Nat → Int64} {le : Int64} {K : Nat} (h1 : 1 ≤ K) (h4 : K ≤ 4) : 1 ≤ RDV kn C fc w n wo le K ∧ RDV kn C fc w n wo le K ≤ K + 1 := by
  unfold RDV rdv
  have := grN_lt (sc := fun k => SUM kn C fc k w n) (wo := wo) K h1
  split <;> omega
/-- rows of a kind that read as y when left out -/
def wrP (kn : Nat → Nat) (C : Nat → Nat → Nat) (n : Nat) (wo : Nat → Int64) (le : Int64) (K a : Nat) (y : Int32) : Nat → Bool := fun t => decide (kn t = a) && decide (RD kn C (C t) (nI t) n wo le K = y)
/-- what is taught -/
def tcM (dn wn vn : Nat → Nat) (M : Nat → Nat → Nat) (n : Nat) : Nat → Nat → Nat := un M n (fu (rwN dn wn vn) (M n) 8)
def tcC (dn wn vn : Nat → Nat) (M C : Nat → Nat → Nat) (n : Nat) : Nat → Nat → Nat := un C n (fu (ceN (fu (rwN dn wn vn) (M n) 8)) (C n) 7)
abbrev Tst : Type := Nat × (Nat → Nat) × (Nat → Nat → Nat) × (Nat → Nat → Nat)
abbrev Pst : Type := (Nat → Nat) × Nat × Bst × Nat
def free (kd : Nat → Nat) (px : Nat) (x y : Int32) : Bool := (inB x 16 && inB y 16) && decide (px < 100) && decide (kd (plc x y) = 0)
def telP (kd : Nat → Nat) (px : Nat) (bt : Bst) (pcs : Nat) (p v : Nat) : Pst := (un kd p v, px + 1, (if v = 1 then (bt, pcs) else numL (un kd p v) (clr bt) 256).1, (if v = 1 then (bt, pcs) else numL (un kd p v) (clr bt) 256).2)
theorem free_pl {kd : Nat → Nat} {px : Nat} {x y : Int32} (h : free kd px x y = true) : (inB x 16 && inB y 16) = true := by
  unfold free at h
  rw [Bool.and_eq_true, Bool.and_eq_true] at h
  exact h.1.1
theorem tch_r {K n a : Nat} {r : Int32} {kn : Nat → Nat} {M C : Nat → Nat → Nat} {u v : Tst} (hB : inB (nI a) K = true) (h : (n = 40 ∧ r = -1 ∧ u = (n, kn, M, C)) ∨ (n < 40 ∧ r = nI n ∧ u = v)) : r = if (inB (nI a) K && decide (n < 40)) = true then nI n else -1 := by
  rcases h with ⟨h1, h2, -⟩ | ⟨h1, h2, -⟩
  · rw [hB, decide_eq_false (by omega), h2]; rfl
  · rw [hB, decide_eq_true h1, h2]; rfl
theorem tch_u {K n a : Nat} {r : Int32} {kn nr : Nat → Nat} {dn wn vn : Nat → Nat} {M C : Nat → Nat → Nat} {u : Tst} (ha : a < K) (hK : K ≤ 4) (hB : inB (nI a) K = true) (h : (n = 40 ∧ r = -1 ∧ u = (n, kn, M, C)) ∨ (n < 40 ∧ r = nI n ∧ u = (n + 1, un kn n a, un M n (fu (fun k => fu (rwN dn wn vn) nr 8 (0 + k)) (M n) 8), un C n (fu (ceN (fu (fun k => fu (rwN dn wn vn) nr 8 (0 + k)) (M n) 8)) (C n) 7)))) : u = if (inB (nI a) K && decide (n < 40)) = true then (n + 1, un kn n (nI a).toNatClampNeg, tcM dn wn vn M n, tcC dn wn vn M C n) else (n, kn, M, C) := by
  rcases h with ⟨h1, -, h2⟩ | ⟨h1, -, h2⟩
  · rw [hB, decide_eq_false (by omega), h2]; rfl
  · rw [hB, decide_eq_true h1, h2, row_eq, nI_clamp (by omega)]; rfl
