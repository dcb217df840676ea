/-! NEIGHBOURS: both count the same -/
theorem of_pl {lb : Nat → Nat} {p q : Nat} (hp : p < 256) : ofB lb (nI (p % 16)) (nI (p / 16)) q = true ↔ lb p = q + 1 := by
  unfold ofB
  rw [isPl_t (by omega) (by omega), Bool.true_and, decide_eq_true_iff, plc_nI (by omega) (by omega), show 16 * (p / 16) + p % 16 = p by omega]
theorem metS_at {lb : Nat → Nat} {x y : Int32} {me : Nat → Nat} {o : Nat} (hl : ∀ p, lb p ≤ 256) (ho : o < 100) : (ofB lb x y o = true → metS lb x y me o = 1) ∧ (ofB lb x y o = false → metS lb x y me o = me o) := by
  unfold ofB metS paN
  by_cases hp : (inB x 16 && inB y 16) = true
  · rw [if_pos hp, hp, Bool.true_and]
    generalize hv : lb (plc x y) = a
    have ha : a ≤ 256 := hv ▸ hl _
    by_cases h0 : a = 0
    · subst h0
      have : ¬ inB (nI 0 - 1) 100 = true := by decide
      rw [if_neg this]
      exact ⟨fun h => by have := of_decide_eq_true h; omega, fun _ => rfl⟩
    · obtain ⟨b, rfl⟩ : ∃ b, a = b + 1 := ⟨a - 1, by omega⟩
      rw [add_sub1, inB_nd (by omega), nI_clamp (by omega)]
      by_cases hb : b < 100
      · rw [if_pos (decide_eq_true hb)]
        refine ⟨fun h => ?_, fun h => ?_⟩
        · have := of_decide_eq_true h
          rw [show o = b by omega]; exact un_s
        · have := of_decide_eq_false h
          exact un_n (by omega)
      · rw [if_neg (by rw [decide_eq_false hb]; exact Bool.false_ne_true)]
        exact ⟨fun h => by have := of_decide_eq_true h; omega, fun _ => rfl⟩
  · have hp' : (inB x 16 && inB y 16) = false := by simpa using hp
    have : ¬ inB (-1) 100 = true := by decide
    rw [if_neg hp, hp', Bool.false_and, if_neg this]
    exact ⟨fun h => absurd h Bool.false_ne_true, fun _ => rfl⟩
theorem metJ_at {lb : Nat → Nat} {X Y : Int32} {me : Nat → Nat} {o : Nat} (hl : ∀ p, lb p ≤ 256) (ho : o < 100) : ∀ n, ((∃ j, j < n ∧ ofB lb (X + (nI j - 1)) Y o = true) → metJ lb X Y n me o = 1) ∧ ((¬ ∃ j, j < n ∧ ofB lb (X + (nI j - 1)) Y o = true) → metJ lb X Y n me o = me o)
  | 0 => ⟨fun ⟨j, h, _⟩ => absurd h (Nat.not_lt_zero _), fun _ => rfl⟩
  | n + 1 => by
    have ih := metJ_at (X := X) (Y := Y) (me := me) hl ho n
    have hs := metS_at (x := X + (nI n - 1)) (y := Y) (me := metJ lb X Y n me) hl ho
    show (_ → metS lb (X + (nI n - 1)) Y (metJ lb X Y n me) o = 1) ∧ (_ → metS lb (X + (nI n - 1)) Y (metJ lb X Y n me) o = me o)
    by_cases hb : ofB lb (X + (nI n - 1)) Y o = true
    · exact ⟨fun _ => hs.1 hb, fun h => absurd ⟨n, Nat.lt_succ_self _, hb⟩ h⟩
    · have hb' : ofB lb (X + (nI n - 1)) Y o = false := by simpa using hb
      rw [hs.2 hb']
      refine ⟨fun ⟨j, hj, h⟩ => ih.1 ⟨j, ?_, h⟩, fun h => ih.2 (fun ⟨j, hj, h2⟩ => h ⟨j, by omega, h2⟩)⟩
      by_cases e : j = n
      · subst e; exact absurd h hb
      · omega
theorem metI_at {lb : Nat → Nat} {X Y : Int32} {me : Nat → Nat} {o : Nat} (hl : ∀ p, lb p ≤ 256) (ho : o < 100) : ∀ n, ((∃ i, i < n ∧ ∃ j, j < 3 ∧ ofB lb (X + (nI j - 1)) (Y + (nI i - 1)) o = true) → metI lb X Y n me o = 1) ∧ ((¬ ∃ i, i < n ∧ ∃ j, j < 3 ∧ ofB lb (X + (nI j - 1)) (Y + (nI i - 1)) o = true) → metI lb X Y n me o = me o)
  | 0 => ⟨fun ⟨j, h, _⟩ => absurd h (Nat.not_lt_zero _), fun _ => rfl⟩
  | n + 1 => by
    have ih := metI_at (X := X) (Y := Y) (me := me) hl ho n
    have hs := metJ_at (X := X) (Y := Y + (nI n - 1)) (me := metI lb X Y n me) hl ho 3
    show (_ → metJ lb X (Y + (nI n - 1)) 3 (metI lb X Y n me) o = 1) ∧ (_ → metJ lb X (Y + (nI n - 1)) 3 (metI lb X Y n me) o = me o)
    by_cases hb : ∃ j, j < 3 ∧ ofB lb (X + (nI j - 1)) (Y + (nI n - 1)) o = true
    · exact ⟨fun _ => hs.1 hb, fun h => absurd ⟨n, Nat.lt_succ_self _, hb⟩ h⟩
    · rw [hs.2 hb]
      refine ⟨fun ⟨j, hj, h⟩ => ih.1 ⟨j, ?_, h⟩, fun h => ih.2 (fun ⟨j, hj, h2⟩ => h ⟨j, by omega, h2⟩)⟩
      by_cases e : j = n
      · subst e; exact absurd h hb
      · omega
/-- a place of q, and one of o at most one apart -/
def Nr (lb : Nat → Nat) (q o n : Nat) : Prop := ∃ p, p < n ∧ lb p = q + 1 ∧ ∃ i, i < 3 ∧ ∃ j, j < 3 ∧ ofB lb (nI (p % 16) + (nI j - 1)) (nI (p / 16) + (nI i - 1)) o = true
theorem metP_at {lb : Nat → Nat} {me : Nat → Nat} {q o : Nat} (hl : ∀ p, lb p ≤ 256) (ho : o < 100) : ∀ n, (Nr lb q o n → metP lb q me n o = 1) ∧ (¬ Nr lb q o n → metP lb q me n o = me o)
  | 0 => ⟨fun ⟨j, h, _⟩ => absurd h (Nat.not_lt_zero _), fun _ => rfl⟩
  | n + 1 => by
    have ih := metP_at (me := me) (q := q) hl ho n
    by_cases hn : lb n = q + 1
    · rw [← metP_s hn]
      have hs := metI_at (X := nI (n % 16)) (Y := nI (n / 16)) (me := metP lb q me n) hl ho 3
      by_cases hb : ∃ i, i < 3 ∧ ∃ j, j < 3 ∧ ofB lb (nI (n % 16) + (nI j - 1)) (nI (n / 16) + (nI i - 1)) o = true
      · exact ⟨fun _ => hs.1 hb, fun h => absurd ⟨n, Nat.lt_succ_self _, hn, hb⟩ h⟩
      · rw [hs.2 hb]
        refine ⟨fun ⟨p, hp, h1, h2⟩ => ih.1 ⟨p, ?_, h1, h2⟩, fun h => ih.2 (fun ⟨p, hp, h2⟩ => h ⟨p, by omega, h2⟩)⟩
        by_cases e : p = n
        · subst e; exact absurd h2 hb
        · omega
    · rw [← metP_n hn]
      refine ⟨fun ⟨p, hp, h1, h2⟩ => ih.1 ⟨p, ?_, h1, h2⟩, fun h => ih.2 (fun ⟨p, hp, h2⟩ => h ⟨p, by omega, h2⟩)⟩
      by_cases e : p = n
      · subst e; exact absurd h1 hn
      · omega
theorem nearD_iff {lb : Nat → Nat} {x y o : Nat} {b : Bool} : ∀ n, nearD lb x y o n b = true ↔ (b = true ∨ ∃ d, d < n ∧ ofB lb (nI x + nI (d % 3) - 1) (nI y + nI (d / 3) - 1) o = true)
  | 0 => ⟨fun h => Or.inl h, fun h => h.elim id (fun ⟨d, hd, _⟩ => absurd hd (Nat.not_lt_zero _))⟩
  | n + 1 => by
    show (nearD lb x y o n b || ofB lb (nI x + nI (n % 3) - 1) (nI y + nI (n / 3) - 1) o) = true ↔ _
    rw [Bool.or_eq_true, nearD_iff n]
    constructor
    · rintro ((h | ⟨d, hd, h⟩) | h)
      · exact Or.inl h
      · exact Or.inr ⟨d, by omega, h⟩
      · exact Or.inr ⟨n, Nat.lt_succ_self _, h⟩
    · rintro (h | ⟨d, hd, h⟩)
      · exact Or.inl (Or.inl h)
      · by_cases e : d = n
        · subst e; exact Or.inr h
        · exact Or.inl (Or.inr ⟨d, by omega, h⟩)
theorem d9 {lb : Nat → Nat} {x y o : Nat} : (∃ d, d < 9 ∧ ofB lb (nI x + nI (d % 3) - 1) (nI y + nI (d / 3) - 1) o = true) ↔ ∃ i, i < 3 ∧ ∃ j, j < 3 ∧ ofB lb (nI x + (nI j - 1)) (nI y + (nI i - 1)) o = true := by
  have e : ∀ (a b : Int32), a + b - 1 = a + (b - 1) := fun a b => by rw [Int32.sub_eq_add_neg, Int32.add_assoc, ← Int32.sub_eq_add_neg]
  constructor
  · rintro ⟨d, hd, h⟩
    exact ⟨d / 3, by omega, d % 3, by omega, by rw [← e, ← e]; exact h⟩
  · rintro ⟨i, hi, j, hj, h⟩
    exact ⟨3 * i + j, by omega, by rw [show (3 * i + j) % 3 = j by omega, show (3 * i + j) / 3 = i by omega, e, e]; exact h⟩
theorem nearP_iff {lb : Nat → Nat} {q o : Nat} : ∀ n, n ≤ 256 → (nearP lb q o n = true ↔ Nr lb q o n)
  | 0, _ => ⟨fun h => absurd h Bool.false_ne_true, fun ⟨p, hp, _⟩ => absurd hp (Nat.not_lt_zero _)⟩
  | n + 1, hn => by
    have ih := nearP_iff (lb := lb) (q := q) (o := o) n (by omega)
    unfold nearP
    by_cases hb : ofB lb (nI (n % 16)) (nI (n / 16)) q = true
    · rw [if_pos hb, nearD_iff, ih, d9]
      have hlq := (of_pl (by omega)).mp hb
      constructor
      · rintro (⟨p, hp, h1, h2⟩ | h)
        · exact ⟨p, by omega, h1, h2⟩
        · exact ⟨n, Nat.lt_succ_self _, hlq, h⟩
      · rintro ⟨p, hp, h1, h2⟩
        by_cases e : p = n
        · subst e; exact Or.inr h2
        · exact Or.inl ⟨p, by omega, h1, h2⟩
    · rw [if_neg hb, ih]
      constructor
      · rintro ⟨p, hp, h1, h2⟩
        exact ⟨p, by omega, h1, h2⟩
      · rintro ⟨p, hp, h1, h2⟩
        by_cases e : p = n
        · subst e; exact absurd ((of_pl (by omega)).mpr h1) hb
        · exact ⟨p, by omega, h1, h2⟩
theorem of_congr {lb lb' : Nat → Nat} {x y : Int32} {o : Nat} (h : ∀ p, p < 256 → lb p = lb' p) : ofB lb x y o = ofB lb' x y o := by
  unfold ofB
  by_cases hp : (inB x 16 && inB y 16) = true
  · rw [h _ (plc_lt hp)]
  · have hp' : (inB x 16 && inB y 16) = false := by simpa using hp
    rw [hp']; rfl
theorem Nr_congr {lb lb' : Nat → Nat} {q o : Nat} (h : ∀ p, p < 256 → lb p = lb' p) : Nr lb q o 256 → Nr lb' q o 256 := by
  rintro ⟨p, hp, h1, i, hi, j, hj, h2⟩
  exact ⟨p, hp, by rw [← h p hp]; exact h1, i, hi, j, hj, by rw [← of_congr h]; exact h2⟩
theorem Nr_lt {lb : Nat → Nat} {q o m : Nat} (h : ∀ p, p < 256 → lb p < m + 1) : Nr lb q o 256 → o < m := by
  rintro ⟨p, hp, h1, i, hi, j, hj, h2⟩
  unfold ofB at h2
  rw [Bool.and_eq_true, decide_eq_true_iff] at h2
  have := h _ (plc_lt h2.1)
  omega
theorem cnt_ext {P : Nat → Bool} {n : Nat} : ∀ m, (∀ i, n ≤ i → P i = false) → cnt P (n + m) = cnt P n
  | 0, _ => rfl
  | m + 1, h => by
    show cnt P (n + m) + (if P (n + m) then 1 else 0) = _
    rw [cnt_ext m h, h (n + m) (by omega)]; rfl
/-- NEIGHBOURS -/
theorem nb_eq {lb lb' me : Nat → Nat} {q m : Nat} (hl : ∀ p, lb p ≤ 256) (h : ∀ p, p < 256 → lb p = lb' p) (hm : ∀ p, p < 256 → lb p < m + 1) (h100 : m ≤ 100) : nbN lb q (fu (fun _ => 0) me 100) 100 = cnt (nbM lb' q) m := by
  have e1 : ∀ n, n ≤ 100 → nbN lb q (fu (fun _ => 0) me 100) n = cnt (nbM lb' q) n := fun n => by
    induction n with
    | zero => intro _; rfl
    | succ n ih =>
      intro hn
      have ih := ih (by omega)
      by_cases hq : n = q
      · rw [← nbN_s hq, ih, ← cnt_n (P := nbM lb' q) (by simp [nbM, hq])]
        rfl
      · rw [← nbN_n hq, ih]
        have hP := metP_at (me := fu (fun _ => 0) me 100) (q := q) (o := n) hl (by omega) 256
        by_cases hr : Nr lb q n 256
        · rw [hP.1 hr, cnt_s]
          simp [nbM, hq, (nearP_iff 256 (Nat.le_refl _)).mpr (Nr_congr h hr)]
        · rw [hP.2 hr, ← cnt_n (P := nbM lb' q)]
          · show _ + fu (fun _ => 0) me 100 n = _
            rw [fu_lt (by omega)]
            rfl
          · have : ¬ nearP lb' q n 256 = true := fun hh => hr (Nr_congr (fun p hp => (h p hp).symm) ((nearP_iff 256 (Nat.le_refl _)).mp hh))
            simp [nbM, this]
  rw [e1 100 (Nat.le_refl _), show 100 = m + (100 - m) by omega]
  refine cnt_ext _ (fun i hi => ?_)
  have : ¬ nearP lb' q i 256 = true := fun hh => by
    have := Nr_lt hm (Nr_congr (fun p hp => (h p hp).symm) ((nearP_iff 256 (Nat.le_refl _)).mp hh))
    omega
  simp [nbM, this]
theorem pa_congr {lb lb' : Nat → Nat} {x y : Int32} (h : ∀ p, p < 256 → lb p = lb' p) : paN lb x y = paN lb' x y := by
  unfold paN
  by_cases hp : (inB x 16 && inB y 16) = true
  · rw [if_pos hp, if_pos hp, h _ (plc_lt hp)]
  · rw [if_neg hp, if_neg hp]
theorem inP_congr {lb lb' kd : Nat → Nat} {a k : Nat} (h : ∀ p, p < 256 → lb p = lb' p) : cnt (inP lb kd a k) 256 = cnt (inP lb' kd a k) 256 := cnt_congr 256 (fun p hp => by unfold inP; rw [h p hp])
/-- one more pixel -/
theorem px_cnt {kd : Nat → Nat} {p v : Nat} (h : kd p = 0) : cnt (fun p => decide (2 ≤ kd p)) 256 ≤ cnt (fun j => decide (2 ≤ un kd p v j)) 256 ∧ cnt (fun j => decide (2 ≤ un kd p v j)) 256 ≤ cnt (fun p => decide (2 ≤ kd p)) 256 + 1 := by
  have hm : cnt (fun p => decide (2 ≤ kd p)) 256 ≤ cnt (fun j => decide (2 ≤ un kd p v j)) 256 := cnt_mono (fun i hi => by
    have := of_decide_eq_true hi
    have e : i ≠ p := fun e => by subst e; omega
    show decide (2 ≤ un kd p v i) = true
    rw [un_n e]; exact hi) 256
  refine ⟨hm, ?_⟩
  by_cases hp : p < 256
  · have hf : (fun p => decide (2 ≤ kd p)) p = false := decide_eq_false (by omega)
    have := cnt_up (P := fun p => decide (2 ≤ kd p)) (n := 256) hp hf
    rw [← this]
    refine cnt_mono (fun i hi => ?_) 256
    by_cases e : i = p
    · subst e; exact un_s
    · have hi' : decide (2 ≤ un kd p v i) = true := hi
      rw [un_n e] at hi'
      show un (fun p => decide (2 ≤ kd p)) p true i = true
      rw [un_n e]; exact hi'
  · have : cnt (fun j => decide (2 ≤ un kd p v j)) 256 = cnt (fun p => decide (2 ≤ kd p)) 256 := cnt_congr 256 (fun i hi => by rw [un_n (by omega)])
    omega
