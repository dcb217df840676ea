/-! THE PIECES, through all calls -/
theorem sw_kd {kd kd' : Nat → Nat} {q : Nat} {L : Nat → Nat} (h : ∀ p, p < 256 → (2 ≤ kd p ↔ 2 ≤ kd' p)) : ∀ i, i ≤ 256 → swS kd q L i = swS kd' q L i
  | 0, _ => rfl
  | i + 1, hi => by
    unfold swS
    rw [sw_kd h i (by omega)]
    by_cases hc : 2 ≤ kd i
    · have := (h i (by omega)).mp hc
      simp [hc, this]
    · have := mt (h i (by omega)).mpr hc
      simp [hc, this]
theorem sp_kd {kd kd' : Nat → Nat} {q : Nat} (h : ∀ p, p < 256 → (2 ≤ kd p ↔ 2 ≤ kd' p)) : ∀ (n : Nat) (L : Nat → Nat), sprd kd q n L = sprd kd' q n L := by
  intro n
  induction n with
  | zero => intro L; rfl
  | succ n ih =>
    intro L
    unfold sprd
    rw [sw_kd h 256 (Nat.le_refl _), ih]
theorem fn_kd {kd kd' lb0 : Nat → Nat} (h : ∀ p, p < 256 → (2 ≤ kd p ↔ 2 ≤ kd' p)) : ∀ i, i ≤ 256 → fnS kd lb0 i = fnS kd' lb0 i := by
  intro i
  induction i with
  | zero => intro _; rfl
  | succ i ih =>
    intro hi
    unfold fnS
    rw [ih (by omega), sp_kd h]
    by_cases hc : 2 ≤ kd i
    · have := (h i (by omega)).mp hc
      simp [hc, this]
    · have := mt (h i (by omega)).mpr hc
      simp [hc, this]
/-- the class's labels and count are what the reference would find now -/
def Lab (kd : Nat → Nat) (bt : Bst) (pcs : Nat) : Prop := (∀ lb : Nat → Nat, (∀ p, p < 256 → bt.1 p = (FN kd lb).1 p) ∧ pcs = (FN kd lb).2) ∧ (∀ p, p < 256 → bt.1 p < pcs + 1) ∧ pcs ≤ 100
theorem Lab_0 {bt : Bst} (h : ∀ p, p < 256 → bt.1 p = 0) : Lab (fun _ => 0) bt 0 := by
  have hf : ∀ (lb0 : Nat → Nat) (i : Nat), fnS (fun _ => 0) lb0 i = (lb0, 0) := fun lb0 i => by
    induction i with
    | zero => rfl
    | succ i ih => unfold fnS; rw [if_neg (fun q => absurd q.1 (by omega)), ih]
  refine ⟨fun lb => ?_, fun p hp => by rw [h p hp]; omega, by omega⟩
  unfold FN
  rw [hf]
  exact ⟨fun p hp => by rw [h p hp]; exact (fu_lt (g := fun _ => 0) (f := lb) hp).symm, rfl⟩
theorem Lab_t {kd : Nat → Nat} {bt : Bst} {pcs p v px : Nat} (hL : Lab kd bt pcs) (h0 : kd p = 0) (hp : p < 256) (hv : 1 ≤ v) (hc : cnt (fun p => decide (2 ≤ kd p)) 256 ≤ px) (hx : px < 100) : Lab (un kd p v) (telP kd px bt pcs p v).2.2.1 (telP kd px bt pcs p v).2.2.2 ∧ cnt (fun j => decide (2 ≤ un kd p v j)) 256 ≤ px + 1 := by
  have hcn := (px_cnt (v := v) h0).2
  refine ⟨?_, by omega⟩
  unfold telP
  by_cases h1 : v = 1
  · subst h1
    rw [if_pos rfl]
    have hk : ∀ j, j < 256 → (2 ≤ kd j ↔ 2 ≤ un kd p 1 j) := fun j _ => by
      by_cases e : j = p
      · subst e; rw [un_s]; omega
      · rw [un_n e]
    refine ⟨fun lb => ?_, hL.2⟩
    have hfe : FN (un kd p 1) lb = FN kd lb := (fn_kd hk 256 (Nat.le_refl _)).symm
    rw [hfe]
    exact hL.1 lb
  · rw [if_neg h1]
    have h100 : cnt (fun j => decide (2 ≤ un kd p v j)) 256 ≤ 100 := by omega
    exact ⟨fun lb => FN_num h100, num_lab h100, Nat.le_trans (num_few 256) h100⟩
