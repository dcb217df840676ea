theorem inB_v4 {x : Int32} {K : Nat} (h : inB x K = true) (hK : K ≤ 4) : vp_in x 4 := by
  unfold inB at h
  simp at h
  exact vp_in_iff.mpr ⟨h.1, by omega⟩
theorem lt_nle {x y : Int32} (h : x < y) : ¬ y ≤ x := by
  rw [Int32.lt_iff_toInt_lt] at h; rw [Int32.le_iff_toInt_le]; omega
theorem nlt_le {x y : Int32} (h : ¬ x < y) : y ≤ x := by
  rw [Int32.lt_iff_toInt_lt] at h; rw [Int32.le_iff_toInt_le]; omega
theorem le_lt3 {x : Int32} {n : Nat} (h : x ≤ nI (2 + 9 * n)) (hn : n ≤ 40 := by omega) : x < nI (3 + 9 * n) := by
  rw [Int32.le_iff_toInt_le, nI_toInt (by omega)] at h; rw [Int32.lt_iff_toInt_lt, nI_toInt (by omega)]; omega
/-- a sum looks at seven cells of the rows taught -/
theorem cnt_congr {P Q : Nat → Bool} : ∀ n, (∀ i, i < n → P i = Q i) → cnt P n = cnt Q n
  | 0, _ => rfl
  | n + 1, h => by
    show cnt P n + (if P n then 1 else 0) = cnt Q n + (if Q n then 1 else 0)
    rw [cnt_congr n (fun i hi => h i (by omega)), h n (by omega)]
theorem sumN_congr {f g : Nat → Nat} : ∀ n, (∀ i, i < n → f i = g i) → sumN f n = sumN g n
  | 0, _ => rfl
  | n + 1, h => by
    show sumN f n + f n = sumN g n + g n
    rw [sumN_congr n (fun i hi => h i (by omega)), h n (by omega)]
theorem SUM_congr {kn : Nat → Nat} {C C' : Nat → Nat → Nat} {fc fc' : Nat → Nat} {kd : Nat} {w : Int32} {n : Nat} (hC : ∀ i k, i < n → k < 7 → C i k = C' i k) (hf : ∀ k, k < 7 → fc k = fc' k) : SUM kn C fc kd w n = SUM kn C' fc' kd w n := by
  unfold SUM
  refine sumN_congr 7 (fun k hk => ?_)
  have : cnt (samR kn C fc kd w k) n = cnt (samR kn C' fc' kd w k) n := cnt_congr n (fun i hi => by unfold samR; rw [hC i k hi hk, hf k hk])
  rw [this]
theorem RD_congr {kn : Nat → Nat} {C C' : Nat → Nat → Nat} {fc fc' : Nat → Nat} {w : Int32} {n : Nat} {wo : Nat → Int64} {le : Int64} {K : Nat} (hC : ∀ i k, i < n → k < 7 → C i k = C' i k) (hf : ∀ k, k < 7 → fc k = fc' k) : RD kn C fc w n wo le K = RD kn C' fc' w n wo le K := by
  unfold RD
  rw [show (fun k => SUM kn C fc k w n) = (fun k => SUM kn C' fc' k w n) from funext (fun _ => SUM_congr hC hf)]
theorem RDV_congr {kn : Nat → Nat} {C C' : Nat → Nat → Nat} {fc fc' : Nat → Nat} {w : Int32} {n : Nat} {wo : Nat → Int64} {le : Int64} {K : Nat} (hC : ∀ i k, i < n → k < 7 → C i k = C' i k) (hf : ∀ k, k < 7 → fc k = fc' k) : RDV kn C fc w n wo le K = RDV kn C' fc' w n wo le K := by
  unfold RDV
  rw [show (fun k => SUM kn C fc k w n) = (fun k => SUM kn C' fc' k w n) from funext (fun _ => SUM_congr hC hf)]
theorem ce_fu {g f : Nat → Nat} {k : Nat} (hk : k < 7) : ceN (fu g f 8) k = ceN g k := by
  unfold ceN
  rw [fu_lt (by omega), fu_lt (by omega)]
theorem RD_row {kn rw m : Nat → Nat} {C : Nat → Nat → Nat} {w : Int32} {n : Nat} {wo : Nat → Int64} {le : Int64} {K : Nat} : RD kn C (ceN (fu m rw 8)) w n wo le K = RD kn C (ceN m) w n wo le K := RD_congr (fun _ _ _ _ => rfl) (fun _ hk => ce_fu hk)
theorem wr_row {M : Nat → Nat → Nat} {i : Nat} : CM M i = ceN (M i) := rfl
theorem MI_px {K n : Nat} {dn wn vn kn : Nat → Nat} {M : Nat → Nat → Nat} {kd : Nat → Nat} {px px' : Nat} {F : Nat → Nat} {fc : Nat} {rw lb : Nat → Nat} (h : MI K n dn wn vn kn M kd px F fc rw lb) (h1 : px' ≤ 100) : MI K n dn wn vn kn M kd px' F fc rw lb := by
  obtain ⟨a, b, c, d, e, f, g⟩ := h
  exact ⟨a, b, c, d, ⟨e.1, h1, e.2.2⟩, f, g⟩
