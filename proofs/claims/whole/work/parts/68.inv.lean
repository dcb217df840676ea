/-! WHAT HOLDS BETWEEN TWO CALLS: class and reference bear the same state -/
def LI (K n : Nat) (dn wn vn kn : Nat → Nat) (M C : Nat → Nat → Nat) (kd : Nat → Nat) (px pcs : Nat) (bt : Bst) (F : Nat → Nat) (fc : Nat) (nr nc rw lb : Nat → Nat) : Prop :=
  HI K n dn wn vn kn M C kd px pcs bt F fc nr nc ∧ ((∀ k, rw k ≤ 255) ∧ (∀ p, lb p ≤ 256)) ∧ (∀ i k, i < n → k < 7 → C i k = CM M i k) ∧ Lab kd bt pcs ∧ cnt (fun p => decide (2 ≤ kd p)) 256 ≤ px
section GLI
variable {K n n' : Nat} {dn wn vn kn dn' wn' vn' kn' : Nat → Nat} {M C M' C' : Nat → Nat → Nat} {kd kd' : Nat → Nat} {px pcs px' pcs' : Nat} {bt bt' : Bst} {F F' : Nat → Nat} {fc fc' : Nat} {nr nc rw lb nr' nc' rw' lb' : Nat → Nat} {x y : Int32} {t tk : Int64} {wo : Nat → Int64} {le : Int64}
theorem LI.h (h : LI K n dn wn vn kn M C kd px pcs bt F fc nr nc rw lb) : HI K n dn wn vn kn M C kd px pcs bt F fc nr nc := h.1
theorem LI.m (h : LI K n dn wn vn kn M C kd px pcs bt F fc nr nc rw lb) : MI K n dn wn vn kn M kd px F fc rw lb := by
  obtain ⟨⟨h1, h2, h3, h4, h5, h6, h7⟩, h8, -⟩ := h
  exact ⟨h1, h2, h3, ⟨h4.1, h4.2.1⟩, ⟨h5.1, h5.2.1, h8.2⟩, h6, h8.1⟩
theorem LI.wn1 (h : LI K n dn wn vn kn M C kd px pcs bt F fc nr nc rw lb) (hw : ∀ k, wn' k ≤ 255) : LI K n dn wn' vn kn M C kd px pcs bt F fc nr nc rw lb := by
  obtain ⟨⟨h1, h2, h3, h4, h5, h6, h7⟩, h8⟩ := h
  exact ⟨⟨h1, h2, ⟨h3.1, hw, h3.2.2⟩, h4, h5, h6, h7⟩, h8⟩
theorem LI.dn1 (h : LI K n dn wn vn kn M C kd px pcs bt F fc nr nc rw lb) (hw : ∀ k, dn' k ≤ 255) : LI K n dn' wn vn kn M C kd px pcs bt F fc nr nc rw lb := by
  obtain ⟨⟨h1, h2, h3, h4, h5, h6, h7⟩, h8⟩ := h
  exact ⟨⟨h1, h2, ⟨hw, h3.2.1, h3.2.2⟩, h4, h5, h6, h7⟩, h8⟩
theorem LI.vn1 (h : LI K n dn wn vn kn M C kd px pcs bt F fc nr nc rw lb) (hw : ∀ k, vn' k ≤ 255) : LI K n dn wn vn' kn M C kd px pcs bt F fc nr nc rw lb := by
  obtain ⟨⟨h1, h2, h3, h4, h5, h6, h7⟩, h8⟩ := h
  exact ⟨⟨h1, h2, ⟨h3.1, h3.2.1, hw⟩, h4, h5, h6, h7⟩, h8⟩
theorem LI.rows (h : LI K n dn wn vn kn M C kd px pcs bt F fc nr nc rw lb) (h1 : ∀ k, nr' k ≤ 255) (h2 : ∀ k, nc' k < 8) (h3 : ∀ k, rw' k ≤ 255) (h4 : ∀ p, lb' p ≤ 256) : LI K n dn wn vn kn M C kd px pcs bt F fc nr' nc' rw' lb' := by
  obtain ⟨⟨g1, g2, g3, g4, g5, g6, g7⟩, g8, g9⟩ := h
  exact ⟨⟨g1, g2, g3, g4, g5, g6, h1, h2⟩, ⟨h3, h4⟩, g9⟩
theorem LI.tab (h : LI K n dn wn vn kn M C kd px pcs bt F fc nr nc rw lb) (h1 : n' ≤ 40) (h2 : ∀ k, kn' k ≤ 255) (h3 : ∀ i k, M' i k ≤ 255) (h4 : ∀ i k, C' i k < 8) (h5 : ∀ i k, i < n' → k < 7 → C' i k = CM M' i k) : LI K n' dn wn vn kn' M' C' kd px pcs bt F fc nr nc rw lb := by
  obtain ⟨⟨g1, g2, g3, g4, g5, g6, g7⟩, g8, g9, g10⟩ := h
  exact ⟨⟨g1, h1, g3, ⟨h2, h3, h4⟩, g5, g6, g7⟩, g8, h5, g10⟩
theorem LI.fd (h : LI K n dn wn vn kn M C kd px pcs bt F fc nr nc rw lb) (h1 : ∀ k, F' k ≤ 255) (h2 : fc' ≤ 400) : LI K n dn wn vn kn M C kd px pcs bt F' fc' nr nc rw lb := by
  obtain ⟨⟨g1, g2, g3, g4, g5, g6, g7⟩, g8⟩ := h
  exact ⟨⟨g1, g2, g3, g4, g5, ⟨h1, h2⟩, g7⟩, g8⟩
theorem LI.pix (h : LI K n dn wn vn kn M C kd px pcs bt F fc nr nc rw lb) (h1 : ∀ p, kd' p ≤ 6) (h2 : px' ≤ 100) (h3 : pcs' ≤ 256) (h4 : Bok bt') (h5 : Lab kd' bt' pcs') (h6 : cnt (fun p => decide (2 ≤ kd' p)) 256 ≤ px') : LI K n dn wn vn kn M C kd' px' pcs' bt' F fc nr nc rw lb := by
  obtain ⟨⟨g1, g2, g3, g4, g5, g6, g7⟩, g8, g9, g10⟩ := h
  exact ⟨⟨g1, g2, g3, g4, ⟨h1, h2, h3, h4⟩, g6, g7⟩, g8, g9, h5, h6⟩
theorem rw_le : ∀ k, rwN dn wn vn k ≤ 255 := fun k => by
  unfold rwN evN
  split
  · omega
  · exact Nat.min_le_left _ _
theorem fu_le9 {f g : Nat → Nat} {N j B : Nat} (h1 : ∀ k, f k ≤ B) (h2 : ∀ k, g k ≤ B) : fu f g N j ≤ B := by
  unfold fu
  split
  · exact h1 j
  · exact h2 j
theorem un_le9 {f : Nat → Nat} {a v B : Nat} (h1 : ∀ k, f k ≤ B) (h2 : v ≤ B) : ∀ k, un f a v k ≤ B := fun k => by
  unfold un
  split
  · exact h2
  · exact h1 k
/-- the class's cells and the reference's, of the row that stands now -/
theorem now_c {k : Nat} (hk : k < 7) : fu (ceN (fu (rwN dn wn vn) nr 8)) nc 7 k = ceN (fu (rwN dn wn vn) rw 8) k := by
  rw [fu_lt hk, ce_fu hk, ce_fu hk]
theorem LI.rd (h : LI K n dn wn vn kn M C kd px pcs bt F fc nr nc rw lb) : RD kn C (fu (ceN (fu (rwN dn wn vn) nr 8)) nc 7) (-1) n wo le K = RD kn (CM M) (ceN (fu (rwN dn wn vn) rw 8)) (-1) n wo le K := RD_congr h.2.2.1 (fun _ hk => now_c hk)
theorem LI.rdv (h : LI K n dn wn vn kn M C kd px pcs bt F fc nr nc rw lb) : RDV kn C (fu (ceN (fu (rwN dn wn vn) nr 8)) nc 7) (-1) n wo le K = RDV kn (CM M) (ceN (fu (rwN dn wn vn) rw 8)) (-1) n wo le K := RDV_congr h.2.2.1 (fun _ hk => now_c hk)
theorem LI.sum (h : LI K n dn wn vn kn M C kd px pcs bt F fc nr nc rw lb) (a : Nat) : SUM kn C (fu (ceN (fu (rwN dn wn vn) nr 8)) nc 7) a (-1) n = SUM kn (CM M) (ceN (fu (rwN dn wn vn) rw 8)) a (-1) n := SUM_congr h.2.2.1 (fun _ hk => now_c hk)
theorem inB_lt {x : Int32} {N : Nat} (h : inB x N = true) (hN : N < 2 ^ 31) : x.toNatClampNeg < N := by
  obtain ⟨j, hj, rfl⟩ := inB_of h hN
  rw [nI_clamp (by omega)]; exact hj
theorem LI.lo (h : LI K n dn wn vn kn M C kd px pcs bt F fc nr nc rw lb) {a : Nat} {w : Int32} (ha : a < n) : RD kn C (C a) w n wo le K = RD kn (CM M) (ceN (fu (M a) rw 8)) w n wo le K :=
  RD_congr h.2.2.1 (fun k hk => by rw [h.2.2.1 a k ha hk, ce_fu hk]; rfl)
theorem LI.wr (h : LI K n dn wn vn kn M C kd px pcs bt F fc nr nc rw lb) {a : Nat} : cnt (wrP kn C n wo le K a y) n = cnt (wrP kn (CM M) n wo le K a y) n :=
  cnt_congr n (fun i hi => by
    unfold wrP
    rw [RD_congr (C := C) (C' := CM M) (fc := C i) (fc' := CM M i) h.2.2.1 (fun k hk => h.2.2.1 i k hi hk)])
/-- teach -/
theorem LI.teach (h : LI K n dn wn vn kn M C kd px pcs bt F fc nr nc rw lb) (hc : (inB x K && decide (n < 40)) = true) : LI K (n + 1) dn wn vn (un kn n x.toNatClampNeg) (tcM dn wn vn M n) (tcC dn wn vn M C n) kd px pcs bt F fc nr nc rw lb := by
  obtain ⟨⟨g1, g2, g3, g4, g5, g6, g7⟩, g8, g9, g10⟩ := id h
  rw [Bool.and_eq_true] at hc
  have hn := of_decide_eq_true hc.2
  have hx := inB_lt hc.1 (by omega)
  refine h.tab (by omega) (un_le9 g4.1 (by omega)) (fun i k => ?_) (fun i k => ?_) (fun i k hi hk => ?_)
  · unfold tcM un
    split
    · exact fu_le9 rw_le (g4.2.1 n)
    · exact g4.2.1 i k
  · unfold tcC un
    split
    · unfold fu
      split
      · exact ceN_lt (fun j => fu_le9 rw_le (g4.2.1 n)) k
      · exact g4.2.2 n k
    · exact g4.2.2 i k
  · by_cases e : i = n
    · subst e
      unfold tcC CM tcM
      rw [un_s, un_s, fu_lt hk]
    · unfold tcC CM tcM
      rw [un_n e, un_n e]
      exact g9 i k (by omega) hk
/-- opened again -/
theorem LI.opn (h : LI K n dn wn vn kn M C kd px pcs bt F fc nr nc rw lb) (hf : fitP K F fc) : LI K (F 1) dn wn vn (fu (ldK F) kn (F 1)) (fu (ldM F M) M (F 1)) (fu (ldC F M C) C (F 1)) kd px pcs bt F 0 nr nc rw lb := by
  obtain ⟨⟨g1, g2, g3, g4, g5, g6, g7⟩, g8, g9, g10⟩ := id h
  refine (h.tab hf.2.2.1 (fun k => fu_le9 (fun j => g6.1 _) g4.1) (ldM_le g6.1 g4.2.1 _) (fun i k => ?_) (fun i k hi hk => ?_)).fd g6.1 (by omega)
  · have hl : ∀ t j, ldM F M t j ≤ 255 := fun t j => fu_le9 (fun k => g6.1 _) (g4.2.1 t)
    by_cases e : i < F 1
    · rw [fu_lt e]
      unfold ldC
      by_cases e2 : k < 7
      · rw [fu_lt e2]; exact ceN_lt (hl i) k
      · rw [fu_ge (by omega)]; exact g4.2.2 i k
    · rw [fu_ge (by omega)]; exact g4.2.2 i k
  · unfold CM
    rw [fu_lt hi, fu_lt hi]
    unfold ldC
    rw [fu_lt hk]
/-- pixel -/
theorem LI.pixel (h : LI K n dn wn vn kn M C kd px pcs bt F fc nr nc rw lb) (hf : free kd px x y = true) {v : Nat} (hv : 1 ≤ v) (hv5 : v ≤ 5) : LI K n dn wn vn kn M C (un kd (plc x y) v) (px + 1) (telP kd px bt pcs (plc x y) v).2.2.2 (telP kd px bt pcs (plc x y) v).2.2.1 F fc nr nc rw lb := by
  obtain ⟨⟨g1, g2, g3, g4, g5, g6, g7⟩, g8, g9, g10, g11⟩ := id h
  unfold free at hf
  rw [Bool.and_eq_true, Bool.and_eq_true] at hf
  have hpl := plc_lt hf.1.1
  have hx := of_decide_eq_true hf.1.2
  have h0 := of_decide_eq_true hf.2
  have hT := Lab_t (v := v) g10 h0 hpl hv g11 hx
  refine h.pix (un_le9 g5.1 (by omega)) (by omega) (by have := hT.1.2.2; omega) ?_ hT.1 hT.2
  unfold telP
  by_cases e : v = 1
  · rw [if_pos e]; exact g5.2.2.2
  · rw [if_neg e]; exact numL_ok (clr_ok g5.2.2.2) 256 (Nat.le_refl _)
theorem LI.lab (h : LI K n dn wn vn kn M C kd px pcs bt F fc nr nc rw lb) : (∀ p, p < 256 → bt.1 p = (FN kd lb).1 p) ∧ pcs = (FN kd lb).2 := h.2.2.2.1.1 lb
theorem LI.piece (h : LI K n dn wn vn kn M C kd px pcs bt F fc nr nc rw lb) : paN bt.1 x y = paN (FN kd lb).1 x y := pa_congr h.lab.1
theorem LI.pk (h : LI K n dn wn vn kn M C kd px pcs bt F fc nr nc rw lb) {a : Nat} : grN (fun k => cnt (inP bt.1 kd a k) 256) wo K = grN (fun k => cnt (inP (FN kd lb).1 kd a k) 256) wo K := by
  rw [show (fun k => cnt (inP bt.1 kd a k) 256) = (fun k => cnt (inP (FN kd lb).1 kd a k) 256) from funext (fun k => inP_congr h.lab.1)]
theorem LI.nb (h : LI K n dn wn vn kn M C kd px pcs bt F fc nr nc rw lb) {a : Nat} {me : Nat → Nat} : nbN bt.1 a (fu (fun _ => 0) me 100) 100 = cnt (nbM (FN kd lb).1 a) (FN kd lb).2 := by
  rw [← h.lab.2]
  exact nb_eq h.1.2.2.2.2.1.2.2.2.1 h.lab.1 h.2.2.2.1.2.1 h.2.2.2.1.2.2
theorem LI.lb1 (h : LI K n dn wn vn kn M C kd px pcs bt F fc nr nc rw lb) : ∀ p, (FN kd lb).1 p ≤ 256 := FN_le h.2.1.2
end GLI
theorem LI_0 {K : Nat} (h1 : 1 ≤ K ∧ K ≤ 4) : LI K 0 (fun _ => 0) (fun _ => 255) (fun _ => 0) (fun _ => 0) (fun _ _ => 0) (fun _ _ => 0) (fun _ => 0) 0 0 ((fun _ => 0, fun _ => 0, 0) : Bst) (fun _ => 0) 0 (fun _ => 0) (fun _ => 0) (fun _ => 0) (fun _ => 1) :=
  ⟨⟨h1, Nat.zero_le _, ⟨fun _ => Nat.zero_le _, fun _ => Nat.le_refl _, fun _ => Nat.zero_le _⟩, ⟨fun _ => Nat.zero_le _, fun _ _ => Nat.zero_le _, fun _ _ => Nat.zero_lt_succ _⟩, ⟨fun _ => Nat.zero_le _, Nat.zero_le _, Nat.zero_le _, ⟨fun _ => Nat.zero_le _, fun _ => Nat.zero_lt_succ _, Nat.zero_le _⟩⟩, ⟨fun _ => Nat.zero_le _, Nat.zero_le _⟩, ⟨fun _ => Nat.zero_le _, fun _ => Nat.zero_lt_succ _⟩⟩, ⟨fun _ => Nat.zero_le _, fun _ => Nat.le_of_ble_eq_true rfl⟩, fun i k hi _ => absurd hi (Nat.not_lt_zero _), Lab_0 (fun _ _ => rfl), Nat.le_of_eq (cnt_0 256 (fun _ _ => rfl))⟩
