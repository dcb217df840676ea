/-! LABELS: the class's way through the belt, and that both say the same -/
def nxt4 (p b : Nat) : Prop := (1 ≤ p % 16 ∧ b = 16 * (p / 16) + (p % 16 - 1)) ∨ (p % 16 + 1 < 16 ∧ b = 16 * (p / 16) + (p % 16 + 1)) ∨ (1 ≤ p / 16 ∧ b = 16 * (p / 16 - 1) + p % 16) ∨ (p / 16 + 1 < 16 ∧ b = 16 * (p / 16 + 1) + p % 16)
theorem adj_4 {p b : Nat} (hp : p < 256) (hb : b < 256) (h : adj p b) : nxt4 p b := by unfold adj at h; unfold nxt4; omega
theorem four_BI {kd lb : Nat → Nat} {v f p : Nat} {t : Bst} (hv : 1 ≤ v) (hO : Old kd lb v) (hf : Kn kd f) (h100 : cnt (fun p => decide (2 ≤ kd p)) 256 ≤ 100) (hp : p < 256) (hr : Rch kd f p) (hB : BI kd lb v f t) :
    BI kd lb v f (four kd v (nI (p % 16)) (nI (p / 16)) t) ∧ (∀ b, adj p b → Kn kd b → (four kd v (nI (p % 16)) (nI (p / 16)) t).1 b ≠ 0) ∧ (∀ q, t.1 q ≠ 0 → (four kd v (nI (p % 16)) (nI (p / 16)) t).1 q = t.1 q) ∧ t.2.2 ≤ (four kd v (nI (p % 16)) (nI (p / 16)) t).2.2 ∧ (∀ k, k < t.2.2 → (four kd v (nI (p % 16)) (nI (p / 16)) t).2.1 k = t.2.1 k) := by
  have hx : p % 16 < 16 := by omega
  have hy : p / 16 < 16 := by omega
  unfold four
  obtain ⟨b1, n1, m1, c1, k1⟩ := join_BI hv hO hf h100 (sd_n hx hy) (fun h => ⟨by omega, fun hK => Rch_s hr (by unfold adj; omega) hK⟩) hB
  generalize joinS kd v (nI (p % 16)) (nI (p / 16) - 1) t = t1 at b1 n1 m1 c1 k1 ⊢
  obtain ⟨b2, n2, m2, c2, k2⟩ := join_BI hv hO hf h100 (sd_w hx hy) (fun h => ⟨by omega, fun hK => Rch_s hr (by unfold adj; omega) hK⟩) b1
  generalize joinS kd v (nI (p % 16) - 1) (nI (p / 16)) t1 = t2 at b2 n2 m2 c2 k2 ⊢
  obtain ⟨b3, n3, m3, c3, k3⟩ := join_BI hv hO hf h100 (sd_e hx hy) (fun h => ⟨by omega, fun hK => Rch_s hr (by unfold adj; omega) hK⟩) b2
  generalize joinS kd v (nI (p % 16) + 1) (nI (p / 16)) t2 = t3 at b3 n3 m3 c3 k3 ⊢
  obtain ⟨b4, n4, m4, c4, k4⟩ := join_BI hv hO hf h100 (sd_s hx hy) (fun h => ⟨by omega, fun hK => Rch_s hr (by unfold adj; omega) hK⟩) b3
  generalize joinS kd v (nI (p % 16)) (nI (p / 16) + 1) t3 = t4 at b4 n4 m4 c4 k4 ⊢
  have e1 : ∀ q, t1.1 q ≠ 0 → t4.1 q = t1.1 q := fun q h => by
    have h2 := m2 q h
    have h3 := m3 q (by rw [h2]; exact h)
    have h4 := m4 q (by rw [h3, h2]; exact h)
    rw [h4, h3, h2]
  have e2 : ∀ q, t2.1 q ≠ 0 → t4.1 q = t2.1 q := fun q h => by
    have h3 := m3 q h
    have h4 := m4 q (by rw [h3]; exact h)
    rw [h4, h3]
  refine ⟨b4, fun b hab hK => ?_, fun q h => ?_, by omega, fun k hk => ?_⟩
  · rcases adj_4 hp hK.1 hab with ⟨a, e⟩ | ⟨a, e⟩ | ⟨a, e⟩ | ⟨a, e⟩
    · have h := n2 a (by rw [← e]; exact hK); rw [← e] at h; rw [e2 b h]; exact h
    · have h := n3 a (by rw [← e]; exact hK); rw [← e] at h; rw [m4 b h]; exact h
    · have h := n1 a (by rw [← e]; exact hK); rw [← e] at h; rw [e1 b h]; exact h
    · have h := n4 a (by rw [← e]; exact hK); rw [← e] at h; exact h
  · have h1 := m1 q h
    rw [e1 q (by rw [h1]; exact h), h1]
  · rw [k4 k (by omega), k3 k (by omega), k2 k (by omega), k1 k hk]
/-- the list is gone through: what was looked at has all its sides labelled -/
theorem bfs_res {kd lb : Nat → Nat} {v f : Nat} (hv : 1 ≤ v) (hO : Old kd lb v) (hf : Kn kd f) (h0 : lb f = 0) (h100 : cnt (fun p => decide (2 ≤ kd p)) 256 ≤ 100) : ∀ (n i : Nat) (t : Bst), n + i = 100 → BI kd lb v f t → t.1 f = v → (∀ k, k < i → k < t.2.2 → ∀ b, adj (t.2.1 k) b → Kn kd b → t.1 b ≠ 0) → Res kd lb (bfs kd v n i t).1 v f := by
  intro n
  induction n with
  | zero =>
    intro i t hi hB hL hd
    have hle := (BI_le hO hf h100 hB).1
    refine Res_of hO hf h0 hB.1 hL (fun a b ha hb hab hLa => ?_)
    obtain ⟨k, hk, rfl⟩ := hB.2.2.1 a ha.1 hLa
    exact hd k (by omega) hk b hab hb
  | succ n ih =>
    intro i t hi hB hL hd
    by_cases hc : i < t.2.2
    · show Res kd lb (if i < t.2.2 then bfs kd v n (i + 1) (four kd v (nI (t.2.1 i % 16)) (nI (t.2.1 i / 16)) t) else t).1 v f
      rw [if_pos hc]
      obtain ⟨hp, hLp⟩ := hB.2.1 i hc
      obtain ⟨b4, n4, m4, c4, k4⟩ := four_BI hv hO hf h100 hp (Snd_v hO hB.1 hp hLp) hB
      refine ih (i + 1) _ (by omega) b4 (by rw [m4 f (by omega)]; exact hL) (fun k hk hk2 b hab hK => ?_)
      by_cases e : k = i
      · subst e
        rw [k4 k hc] at hab
        exact n4 b hab hK
      · have hki : k < t.2.2 := by omega
        rw [k4 k hki] at hab
        have := hd k (by omega) hki b hab hK
        rw [m4 b this]; exact this
    · show Res kd lb (if i < t.2.2 then bfs kd v n (i + 1) (four kd v (nI (t.2.1 i % 16)) (nI (t.2.1 i / 16)) t) else t).1 v f
      rw [if_neg hc]
      refine Res_of hO hf h0 hB.1 hL (fun a b ha hb hab hLa => ?_)
      obtain ⟨k, hk, rfl⟩ := hB.2.2.1 a ha.1 hLa
      exact hd k (by omega) hk b hab hb
theorem cnt_0 {P : Nat → Bool} : ∀ n, (∀ i, i < n → P i = false) → cnt P n = 0
  | 0, _ => rfl
  | n + 1, h => by
    show cnt P n + (if P n then 1 else 0) = 0
    rw [cnt_0 n (fun i hi => h i (by omega)), h n (by omega)]; rfl
theorem joinF_res {kd : Nat → Nat} {v f : Nat} {t : Bst} (hv : 1 ≤ v) (hO : Old kd t.1 v) (hf : Kn kd f) (h0 : t.1 f = 0) (h100 : cnt (fun p => decide (2 ≤ kd p)) 256 ≤ 100) : Res kd t.1 (joinF kd v f t).1 v f := by
  have hB0 : BI kd t.1 v f (t.1, t.2.1, 0) := ⟨fun p _ => Or.inr rfl, fun k hk => absurd hk (Nat.not_lt_zero _), fun p hp h => by have := hO.1 p hp; have h' : t.1 p = v := h; omega, (cnt_0 256 (fun p hp => decide_eq_false (by have := hO.1 p hp; show ¬ t.1 p = v; omega))).symm⟩
  have hx : f % 16 < 16 := by omega
  have hy : f / 16 < 16 := by have := hf.1; omega
  obtain ⟨b1, n1, -, -, -⟩ := join_BI (P := True) (r := f) hv hO hf h100 ⟨⟨fun _ => trivial, fun _ => isPl_t hx hy⟩, fun _ => by rw [plc_nI hx hy]; omega⟩ (fun _ => ⟨hf.1, fun _ => Rch_0⟩) hB0
  unfold joinF
  have hLf : (joinS kd v (nI (f % 16)) (nI (f / 16)) (t.1, t.2.1, 0)).1 f = v := by
    rcases b1.1 f hf.1 with h | h
    · exact h.1
    · exact absurd (h.trans h0) (n1 trivial hf)
  exact bfs_res hv hO hf h0 h100 100 0 _ rfl b1 hLf (fun k hk => absurd hk (Nat.not_lt_zero _))
/-- BOTH: the same labels, the same number of pieces -/
theorem num_fn {kd lb0 : Nat → Nat} {t0 : Bst} (h100 : cnt (fun p => decide (2 ≤ kd p)) 256 ≤ 100) (h0 : ∀ p, p < 256 → t0.1 p = 0) (h1 : ∀ p, p < 256 → lb0 p = 0) : ∀ i, i ≤ 256 → (∀ p, p < 256 → (numL kd t0 i).1.1 p = (fnS kd lb0 i).1 p) ∧ (numL kd t0 i).2 = (fnS kd lb0 i).2 ∧ Old kd (numL kd t0 i).1.1 ((numL kd t0 i).2 + 1) ∧ Old kd (fnS kd lb0 i).1 ((fnS kd lb0 i).2 + 1) := by
  intro i
  induction i with
  | zero =>
    intro _
    have ho : ∀ (l : Nat → Nat), (∀ p, p < 256 → l p = 0) → Old kd l 1 := fun l h => ⟨fun p hp => by rw [h p hp]; omega, fun p hp hn => absurd (h p hp) hn, fun a b ha _ _ hn => absurd (h a ha.1) hn⟩
    exact ⟨fun p hp => by show t0.1 p = lb0 p; rw [h0 p hp, h1 p hp], rfl, ho _ h0, ho _ h1⟩
  | succ i ih =>
    intro hi
    obtain ⟨e1, e2, o1, o2⟩ := ih (by omega)
    by_cases hc : 2 ≤ kd i ∧ (numL kd t0 i).1.1 i = 0
    · have hc2 : (fnS kd lb0 i).1 i = 0 := by rw [← e1 i (by omega)]; exact hc.2
      rw [numL_s hc.1 hc.2, fn_s hc.1 hc2]
      have hK : Kn kd i := ⟨by omega, hc.1⟩
      have r1 := joinF_res (t := (numL kd t0 i).1) (by omega) o1 hK hc.2 h100
      have hz : cnt (zer (un (fnS kd lb0 i).1 i ((fnS kd lb0 i).2 + 1))) 256 < 257 := Nat.lt_succ_of_le (cnt_le _ _)
      have hS : Snd kd (fnS kd lb0 i).1 (un (fnS kd lb0 i).1 i ((fnS kd lb0 i).2 + 1)) ((fnS kd lb0 i).2 + 1) i := fun p hp => by
        by_cases e : p = i
        · subst e; exact Or.inl ⟨un_s, Rch_0⟩
        · exact Or.inr (un_n e)
      have r2 := sp_res o2 hK hc2 257 _ hS un_s hz
      have r1' : Res kd (numL kd t0 i).1.1 (joinF kd ((numL kd t0 i).2 + 1) i (numL kd t0 i).1).1 ((fnS kd lb0 i).2 + 1) i := by rw [← e2]; exact r1
      refine ⟨Res_eq r1' r2 e1, by show _ + 1 = _ + 1; rw [e2], Res_old (by omega) o1 hK hc.2 r1, Res_old (by omega) o2 hK hc2 r2⟩
    · have hc2 : ¬ (2 ≤ kd i ∧ (fnS kd lb0 i).1 i = 0) := fun h => hc ⟨h.1, by rw [e1 i (by omega)]; exact h.2⟩
      rw [← numL_n hc, ← fn_n hc2]
      exact ⟨e1, e2, o1, o2⟩
theorem FN_num {kd lb : Nat → Nat} {bt : Bst} (h100 : cnt (fun p => decide (2 ≤ kd p)) 256 ≤ 100) : (∀ p, p < 256 → (numL kd (clr bt) 256).1.1 p = (FN kd lb).1 p) ∧ (numL kd (clr bt) 256).2 = (FN kd lb).2 := by
  have h := num_fn (kd := kd) (t0 := clr bt) (lb0 := fu (fun _ => 0) lb 256) h100 (fun p hp => (fu_lt (g := fun _ => 0) (f := bt.1) hp : fu (fun _ => 0) bt.1 256 p = 0)) (fun p hp => (fu_lt (g := fun _ => 0) (f := lb) hp : fu (fun _ => 0) lb 256 p = 0)) 256 (Nat.le_refl _)
  exact ⟨h.1, h.2.1⟩
theorem num_lab {kd : Nat → Nat} {bt : Bst} (h100 : cnt (fun p => decide (2 ≤ kd p)) 256 ≤ 100) : ∀ p, p < 256 → (numL kd (clr bt) 256).1.1 p < (numL kd (clr bt) 256).2 + 1 :=
  (num_fn (kd := kd) (t0 := clr bt) (lb0 := fu (fun _ => 0) bt.1 256) h100 (fun p hp => (fu_lt (g := fun _ => 0) (f := bt.1) hp : fu (fun _ => 0) bt.1 256 p = 0)) (fun p hp => (fu_lt (g := fun _ => 0) (f := bt.1) hp : fu (fun _ => 0) bt.1 256 p = 0)) 256 (Nat.le_refl _)).2.2.1.1
theorem num_few {kd : Nat → Nat} {t0 : Bst} : ∀ i, (numL kd t0 i).2 ≤ cnt (fun p => decide (2 ≤ kd p)) i
  | 0 => Nat.le_refl _
  | i + 1 => by
    have ih := num_few (kd := kd) (t0 := t0) i
    by_cases hc : 2 ≤ kd i ∧ (numL kd t0 i).1.1 i = 0
    · rw [numL_s hc.1 hc.2, cnt_s (decide_eq_true hc.1)]
      exact Nat.succ_le_succ ih
    · rw [← numL_n hc]
      exact Nat.le_trans ih (by show _ ≤ cnt _ i + _; omega)
