/-! BELT, pure: places, labels (0: none, else the piece's number and 1), kinds (0: untold, 1: unknown, else the kind and 2) -/
def k2 (kd : Nat → Nat) : Nat → Int32 := fun p => nI (kd p) - 2
def l1 (lb : Nat → Nat) : Nat → Int32 := fun p => nI (lb p) - 1
theorem k2_neg {a : Nat} (h : a < 2 ^ 30) : nI a - 2 < 0 ↔ a < 2 := by
  rw [Int32.lt_iff_toInt_lt, show (2 : Int32) = nI 2 from rfl, pk_sub_toInt h (by omega), Int32.toInt_zero]; omega
theorem k2_eq {a b : Nat} (ha : a < 2 ^ 30) (hb : b < 2 ^ 30) : nI a - 2 = nI b ↔ a = b + 2 := by
  rw [← Int32.toInt_inj, show (2 : Int32) = nI 2 from rfl, pk_sub_toInt ha (by omega), nI_toInt (by omega)]; omega
theorem k2_un {a : Nat} (ha : a < 2 ^ 30) : nI a - 2 = -2 ↔ a = 0 := by
  rw [← Int32.toInt_inj, show (-2 : Int32).toInt = -2 from by decide, show (2 : Int32) = nI 2 from rfl, pk_sub_toInt ha (by omega)]; omega
theorem k2_none {a : Nat} (ha : a < 2 ^ 30) : nI a - 2 = -1 ↔ a = 1 := by
  rw [← Int32.toInt_inj, show (2 : Int32) = nI 2 from rfl, pk_sub_toInt ha (by omega), show (-1 : Int32).toInt = -1 from by decide]; omega
theorem l1_none {a : Nat} (ha : a < 2 ^ 30) : nI a - 1 = -1 ↔ a = 0 := by
  rw [← Int32.toInt_inj, show (-1 : Int32).toInt = -1 from by decide, show (1 : Int32) = nI 1 from rfl, pk_sub_toInt ha (by omega)]; omega
theorem l1_neg {a : Nat} (ha : a < 2 ^ 30) : nI a - 1 < 0 ↔ a = 0 := by
  rw [Int32.lt_iff_toInt_lt, show (1 : Int32) = nI 1 from rfl, pk_sub_toInt ha (by omega), Int32.toInt_zero]; omega
theorem l1_eq {a b : Nat} (ha : a < 2 ^ 30) (hb : b < 2 ^ 30) : nI a - 1 = nI b ↔ a = b + 1 := by
  rw [← Int32.toInt_inj, show (1 : Int32) = nI 1 from rfl, pk_sub_toInt ha (by omega), nI_toInt (by omega)]; omega
theorem add_sub1 (a : Nat) : nI (a + 1) - 1 = nI a := by rw [← nI_1, Int32.add_sub_cancel]
theorem add_sub2 (a : Nat) : nI (a + 2) - 2 = nI a := by
  rw [show nI (a + 2) = nI a + 2 from (nI_add a 2).symm, Int32.add_sub_cancel]
theorem l1_upd (lb : Nat → Nat) (p a : Nat) : upd (l1 lb) p (nI a) = l1 (un lb p (a + 1)) := by
  funext j
  by_cases h : j = p
  · simp [upd, l1, un, h, add_sub1]
  · simp [upd, l1, un, h]
theorem k2_upd (kd : Nat → Nat) (p v : Nat) : upd (k2 kd) p (nI v - 2) = k2 (un kd p v) := by
  funext j
  by_cases h : j = p
  · simp [upd, k2, un, h]
  · simp [upd, k2, un, h]
theorem l1_fill (lb : Nat → Nat) : fu (fun _ => (-1 : Int32)) (l1 lb) 256 = l1 (fu (fun _ => 0) lb 256) := by
  funext j
  show (if j < 256 then (-1 : Int32) else nI (lb j) - 1) = nI (if j < 256 then 0 else lb j) - 1
  split <;> rfl
/-- a place by its coordinates -/
def plc (x y : Int32) : Nat := 16 * y.toNatClampNeg + x.toNatClampNeg
theorem plc_nI {a b : Nat} (ha : a < 16) (hb : b < 16) : plc (nI a) (nI b) = 16 * b + a := by
  unfold plc; rw [nI_clamp (by omega), nI_clamp (by omega)]
theorem isPl {x y : Int32} (h : (inB x 16 && inB y 16) = true) : ∃ a b, a < 16 ∧ b < 16 ∧ x = nI a ∧ y = nI b := by
  rw [Bool.and_eq_true] at h
  obtain ⟨a, ha, rfl⟩ := inB_of h.1 (by omega)
  obtain ⟨b, hb, rfl⟩ := inB_of h.2 (by omega)
  exact ⟨a, b, ha, hb, rfl, rfl⟩
theorem isPl_t {a b : Nat} (ha : a < 16) (hb : b < 16) : (inB (nI a) 16 && inB (nI b) 16) = true := by
  rw [inB_nI ha (by omega), inB_nI hb (by omega)]; rfl
/-- labels, the list of those joined, and how many -/
abbrev Bst : Type := (Nat → Nat) × (Nat → Nat) × Nat
def joinS (kd : Nat → Nat) (v : Nat) (x y : Int32) (t : Bst) : Bst :=
  if (inB x 16 && inB y 16) = true ∧ t.2.2 < 100 ∧ 2 ≤ kd (plc x y) ∧ t.1 (plc x y) = 0 then (un t.1 (plc x y) v, un t.2.1 t.2.2 (plc x y), t.2.2 + 1) else t
/-- what stays small -/
def Bok (t : Bst) : Prop := (∀ p, t.1 p ≤ 256) ∧ (∀ k, t.2.1 k < 256) ∧ t.2.2 ≤ 100
theorem plc_lt {x y : Int32} (h : (inB x 16 && inB y 16) = true) : plc x y < 256 := by
  obtain ⟨a, b, ha, hb, rfl, rfl⟩ := isPl h
  rw [plc_nI ha hb]; omega
theorem joinS_ok {kd : Nat → Nat} {v : Nat} {x y : Int32} {t : Bst} (hv : v ≤ 256) (h : Bok t) : Bok (joinS kd v x y t) := by
  unfold joinS
  split
  · rename_i hc
    refine ⟨un_le h.1 hv, fun k => ?_, ?_⟩
    · show un t.2.1 t.2.2 (plc x y) k < 256
      unfold un; split
      · exact plc_lt hc.1
      · exact h.2.1 k
    · show t.2.2 + 1 ≤ 100
      omega
  · exact h
def four (kd : Nat → Nat) (v : Nat) (X Y : Int32) (t : Bst) : Bst := joinS kd v X (Y + 1) (joinS kd v (X + 1) Y (joinS kd v (X - 1) Y (joinS kd v X (Y - 1) t)))
theorem four_ok {kd : Nat → Nat} {v : Nat} {X Y : Int32} {t : Bst} (hv : v ≤ 256) (h : Bok t) : Bok (four kd v X Y t) := joinS_ok hv (joinS_ok hv (joinS_ok hv (joinS_ok hv h)))
def bfs (kd : Nat → Nat) (v : Nat) : Nat → Nat → Bst → Bst
  | 0, _, t => t
  | n + 1, i, t => if i < t.2.2 then bfs kd v n (i + 1) (four kd v (nI (t.2.1 i % 16)) (nI (t.2.1 i / 16)) t) else t
theorem bfs_ok {kd : Nat → Nat} {v : Nat} (hv : v ≤ 256) : ∀ (n i : Nat) (t : Bst), Bok t → Bok (bfs kd v n i t)
  | 0, _, _, h => h
  | n + 1, i, t, h => by
    unfold bfs
    split
    · exact bfs_ok hv n (i + 1) _ (four_ok hv h)
    · exact h
theorem bfs_end {kd : Nat → Nat} {v n i : Nat} {t : Bst} (h : ¬ i < t.2.2) : bfs kd v n i t = t := by
  cases n with
  | zero => rfl
  | succ n => unfold bfs; rw [if_neg h]
theorem bfs_step {kd : Nat → Nat} {v i : Nat} {t : Bst} (hi : i < 100) (h : i < t.2.2) : bfs kd v (100 - i) i t = bfs kd v (100 - (i + 1)) (i + 1) (four kd v (nI (t.2.1 i % 16)) (nI (t.2.1 i / 16)) t) := by
  rw [show 100 - i = (100 - (i + 1)) + 1 by omega]
  conv => lhs; unfold bfs
  rw [if_pos h]
def joinF (kd : Nat → Nat) (v f : Nat) (t : Bst) : Bst := bfs kd v 100 0 (joinS kd v (nI (f % 16)) (nI (f / 16)) (t.1, t.2.1, 0))
theorem joinF_ok {kd : Nat → Nat} {v f : Nat} {t : Bst} (hv : v ≤ 256) (h : Bok t) : Bok (joinF kd v f t) := bfs_ok hv _ _ _ (joinS_ok hv ⟨h.1, h.2.1, by show 0 ≤ 100; omega⟩)
/-- all places up to i: the labels, and how many pieces -/
def numL (kd : Nat → Nat) (t0 : Bst) : Nat → Bst × Nat
  | 0 => (t0, 0)
  | i + 1 => if 2 ≤ kd i ∧ (numL kd t0 i).1.1 i = 0 then (joinF kd ((numL kd t0 i).2 + 1) i (numL kd t0 i).1, (numL kd t0 i).2 + 1) else numL kd t0 i
theorem numL_le (kd : Nat → Nat) (t0 : Bst) : ∀ i, (numL kd t0 i).2 ≤ i
  | 0 => Nat.le_refl _
  | i + 1 => by
    have := numL_le kd t0 i
    unfold numL
    split
    · show _ + 1 ≤ _; omega
    · omega
theorem numL_ok {kd : Nat → Nat} {t0 : Bst} (h : Bok t0) : ∀ i, i ≤ 256 → Bok (numL kd t0 i).1
  | 0, _ => h
  | i + 1, hi => by
    have h1 := numL_ok (kd := kd) h i (by omega)
    have h2 := numL_le kd t0 i
    unfold numL
    split
    · exact joinF_ok (by omega) h1
    · exact h1
theorem numL_s {kd : Nat → Nat} {t0 : Bst} {i : Nat} (h1 : 2 ≤ kd i) (h2 : (numL kd t0 i).1.1 i = 0) : numL kd t0 (i + 1) = (joinF kd ((numL kd t0 i).2 + 1) i (numL kd t0 i).1, (numL kd t0 i).2 + 1) := by
  conv => lhs; unfold numL
  rw [if_pos ⟨h1, h2⟩]
theorem numL_n {kd : Nat → Nat} {t0 : Bst} {i : Nat} (h : ¬ (2 ≤ kd i ∧ (numL kd t0 i).1.1 i = 0)) : numL kd t0 i = numL kd t0 (i + 1) := by
  conv => rhs; unfold numL
  rw [if_neg h]
def clr (t : Bst) : Bst := (fu (fun _ => 0) t.1 256, t.2.1, t.2.2)
theorem clr_ok {t : Bst} (h : Bok t) : Bok (clr t) := ⟨fun p => by show (if p < 256 then 0 else t.1 p) ≤ 256; split; omega; exact h.1 p, h.2.1, h.2.2⟩
/-- the piece at a place, as told -/
def paN (lb : Nat → Nat) (x y : Int32) : Int32 := if (inB x 16 && inB y 16) = true then nI (lb (plc x y)) - 1 else -1
/-- pieces met -/
def metS (lb : Nat → Nat) (x y : Int32) (me : Nat → Nat) : Nat → Nat := if inB (paN lb x y) 100 = true then un me (paN lb x y).toNatClampNeg 1 else me
def metJ (lb : Nat → Nat) (X Y : Int32) : Nat → (Nat → Nat) → (Nat → Nat)
  | 0, me => me
  | j + 1, me => metS lb (X + (nI j - 1)) Y (metJ lb X Y j me)
def metI (lb : Nat → Nat) (X Y : Int32) : Nat → (Nat → Nat) → (Nat → Nat)
  | 0, me => me
  | i + 1, me => metJ lb X (Y + (nI i - 1)) 3 (metI lb X Y i me)
def metP (lb : Nat → Nat) (q : Nat) (me : Nat → Nat) : Nat → (Nat → Nat)
  | 0 => me
  | p + 1 => if lb p = q + 1 then metI lb (nI (p % 16)) (nI (p / 16)) 3 (metP lb q me p) else metP lb q me p
/-- the number of neighbours -/
def nbN (lb : Nat → Nat) (q : Nat) (me : Nat → Nat) (n : Nat) : Nat := sumN (fun o => if o = q then 0 else metP lb q me 256 o) n
/-- pixels of a kind in a piece -/
def inP (lb kd : Nat → Nat) (q k : Nat) : Nat → Bool := fun p => decide (lb p = q + 1) && decide (kd p = k + 2)
theorem j1_gt {j : Nat} (h : j < 2 ^ 30) : (1 : Int32) < nI j - 1 ↔ 2 < j := by
  rw [Int32.lt_iff_toInt_lt, show (1 : Int32) = nI 1 from rfl, pk_sub_toInt h (by omega), nI_toInt (by omega)]; omega
