/-! LABELS: both numberings label what is reached -/
def Kn (kd : Nat → Nat) (p : Nat) : Prop := p < 256 ∧ 2 ≤ kd p
def adj (a b : Nat) : Prop := (b = a + 1 ∧ a % 16 ≠ 15) ∨ (a = b + 1 ∧ b % 16 ≠ 15) ∨ b = a + 16 ∨ a = b + 16
theorem adj_s {a b : Nat} (h : adj a b) : adj b a := by unfold adj at *; omega
def Rch (kd : Nat → Nat) (f p : Nat) : Prop := ∀ S : Nat → Prop, S f → (∀ a b, S a → adj a b → Kn kd b → S b) → S p
theorem Rch_0 {kd : Nat → Nat} {f : Nat} : Rch kd f f := fun _ h _ => h
theorem Rch_s {kd : Nat → Nat} {f a b : Nat} (h : Rch kd f a) (hab : adj a b) (hb : Kn kd b) : Rch kd f b := fun S h0 h1 => h1 a b (h S h0 h1) hab hb
theorem Rch_K {kd : Nat → Nat} {f p : Nat} (hf : Kn kd f) (h : Rch kd f p) : Kn kd p := h (fun p => Kn kd p) hf (fun _ _ _ _ hb => hb)
/-- labels before: below v, of known places, closed -/
def Old (kd lb : Nat → Nat) (v : Nat) : Prop := (∀ p, p < 256 → lb p < v) ∧ (∀ p, p < 256 → lb p ≠ 0 → Kn kd p) ∧ (∀ a b, Kn kd a → Kn kd b → adj a b → lb a ≠ 0 → lb b ≠ 0)
theorem Old_0 {kd lb : Nat → Nat} {v f p : Nat} (h : Old kd lb v) (hf : Kn kd f) (h0 : lb f = 0) (hr : Rch kd f p) : lb p = 0 :=
  (hr (fun p => Kn kd p ∧ lb p = 0) ⟨hf, h0⟩ (fun a b ha hab hb => ⟨hb, Classical.byContradiction (fun hn => h.2.2 b a hb ha.1 (adj_s hab) hn ha.2)⟩)).2
/-- labels now: as before, or v where reached -/
def Snd (kd lb L : Nat → Nat) (v f : Nat) : Prop := ∀ p, p < 256 → (L p = v ∧ Rch kd f p) ∨ L p = lb p
def Res (kd lb L : Nat → Nat) (v f : Nat) : Prop := ∀ p, p < 256 → (Rch kd f p → L p = v) ∧ (¬ Rch kd f p → L p = lb p)
theorem Snd_v {kd lb L : Nat → Nat} {v f p : Nat} (hO : Old kd lb v) (hS : Snd kd lb L v f) (hp : p < 256) (h : L p = v) : Rch kd f p := by
  rcases hS p hp with h1 | h1
  · exact h1.2
  · rw [h1] at h
    have := hO.1 p hp
    omega
theorem Res_of {kd lb L : Nat → Nat} {v f : Nat} (hO : Old kd lb v) (hf : Kn kd f) (h0 : lb f = 0) (hS : Snd kd lb L v f) (hLf : L f = v) (hcl : ∀ a b, Kn kd a → Kn kd b → adj a b → L a = v → L b ≠ 0) : Res kd lb L v f := by
  intro p hp
  refine ⟨fun hr => ?_, fun hnr => ?_⟩
  · refine (hr (fun p => Kn kd p ∧ L p = v) ⟨hf, hLf⟩ (fun a b ha hab hb => ⟨hb, ?_⟩)).2
    rcases hS b hb.1 with h1 | h1
    · exact h1.1
    · have hrb : Rch kd f b := Rch_s (Snd_v hO hS ha.1.1 ha.2) hab hb
      rw [Old_0 hO hf h0 hrb] at h1
      exact absurd h1 (hcl a b ha.1 hb hab ha.2)
  · rcases hS p hp with h1 | h1
    · exact absurd h1.2 hnr
    · exact h1
/-- one more label keeps the form -/
theorem Res_old {kd lb L : Nat → Nat} {v f : Nat} (hv : 1 ≤ v) (hO : Old kd lb v) (hf : Kn kd f) (h0 : lb f = 0) (hR : Res kd lb L v f) : Old kd L (v + 1) := by
  refine ⟨fun p hp => ?_, fun p hp hn => ?_, fun a b ha hb hab hn => ?_⟩
  · by_cases hr : Rch kd f p
    · rw [(hR p hp).1 hr]; omega
    · rw [(hR p hp).2 hr]; have := hO.1 p hp; omega
  · by_cases hr : Rch kd f p
    · exact Rch_K hf hr
    · rw [(hR p hp).2 hr] at hn; exact hO.2.1 p hp hn
  · by_cases hr : Rch kd f a
    · rw [(hR b hb.1).1 (Rch_s hr hab hb)]; omega
    · have hrb : ¬ Rch kd f b := fun h => hr (Rch_s h (adj_s hab) ha)
      rw [(hR a ha.1).2 hr] at hn
      rw [(hR b hb.1).2 hrb]
      exact hO.2.2 a b ha hb hab hn
theorem Res_eq {kd lb lb' L L' : Nat → Nat} {v f : Nat} (h : Res kd lb L v f) (h' : Res kd lb' L' v f) (e : ∀ p, p < 256 → lb p = lb' p) : ∀ p, p < 256 → L p = L' p := fun p hp => by
  by_cases hr : Rch kd f p
  · rw [(h p hp).1 hr, (h' p hp).1 hr]
  · rw [(h p hp).2 hr, (h' p hp).2 hr, e p hp]
/-- coordinates beside -/
theorem inB_m1 {x : Nat} (hx : x < 16) : inB (nI x - 1) 16 = decide (1 ≤ x) := by
  unfold inB
  rw [show (1 : Int32) = nI 1 from rfl, pk_sub_toInt (by omega) (by omega)]
  by_cases h : 1 ≤ x
  · rw [decide_eq_true (show (0 : Int) ≤ (x : Int) - (1 : Nat) by omega), decide_eq_true (show ((x : Int) - (1 : Nat)) < ((16 : Nat) : Int) by omega), decide_eq_true h]; rfl
  · rw [decide_eq_false (show ¬ (0 : Int) ≤ (x : Int) - (1 : Nat) by omega), decide_eq_false h]; rfl
theorem inB_nd {x n : Nat} (hx : x < 2 ^ 31) : inB (nI x) n = decide (x < n) := by
  unfold inB
  rw [nI_toInt hx]
  by_cases h : x < n
  · rw [decide_eq_true (show (0 : Int) ≤ (x : Int) by omega), decide_eq_true (show (x : Int) < (n : Int) by omega), decide_eq_true h]; rfl
  · rw [decide_eq_false (show ¬ (x : Int) < (n : Int) by omega), decide_eq_false h, Bool.and_false]
/-- the four sides, each: a place that is there -/
theorem sd_w {x y : Nat} (hx : x < 16) (hy : y < 16) : ((inB (nI x - 1) 16 && inB (nI y) 16) = true ↔ 1 ≤ x) ∧ (1 ≤ x → plc (nI x - 1) (nI y) = 16 * y + (x - 1)) := by
  rw [inB_m1 hx, inB_nI hy (by omega), Bool.and_true, decide_eq_true_iff]
  refine ⟨Iff.rfl, fun h => ?_⟩
  rw [show nI x - 1 = nI (x - 1) from pk_sub (b := 1) h]
  exact plc_nI (by omega) hy
theorem sd_e {x y : Nat} (hx : x < 16) (hy : y < 16) : ((inB (nI x + 1) 16 && inB (nI y) 16) = true ↔ x + 1 < 16) ∧ (x + 1 < 16 → plc (nI x + 1) (nI y) = 16 * y + (x + 1)) := by
  rw [nI_1, inB_nd (by omega), inB_nI hy (by omega), Bool.and_true, decide_eq_true_iff]
  exact ⟨Iff.rfl, fun h => plc_nI h hy⟩
theorem sd_n {x y : Nat} (hx : x < 16) (hy : y < 16) : ((inB (nI x) 16 && inB (nI y - 1) 16) = true ↔ 1 ≤ y) ∧ (1 ≤ y → plc (nI x) (nI y - 1) = 16 * (y - 1) + x) := by
  rw [inB_m1 hy, inB_nI hx (by omega), Bool.true_and, decide_eq_true_iff]
  refine ⟨Iff.rfl, fun h => ?_⟩
  rw [show nI y - 1 = nI (y - 1) from pk_sub (b := 1) h]
  exact plc_nI hx (by omega)
theorem sd_s {x y : Nat} (hx : x < 16) (hy : y < 16) : ((inB (nI x) 16 && inB (nI y + 1) 16) = true ↔ y + 1 < 16) ∧ (y + 1 < 16 → plc (nI x) (nI y + 1) = 16 * (y + 1) + x) := by
  rw [nI_1, inB_nI hx (by omega), inB_nd (by omega), Bool.true_and, decide_eq_true_iff]
  exact ⟨Iff.rfl, fun h => plc_nI hx h⟩
theorem of_1 {L : Nat → Nat} {X Y : Int32} {q r : Nat} {P : Prop} (h : ((inB X 16 && inB Y 16) = true ↔ P) ∧ (P → plc X Y = r)) : ofB L X Y q = true ↔ P ∧ L r = q + 1 := by
  unfold ofB
  rw [Bool.and_eq_true, decide_eq_true_iff, h.1]
  refine ⟨fun ⟨a, b⟩ => ⟨a, by rw [h.2 a] at b; exact b⟩, fun ⟨a, b⟩ => ⟨a, by rw [h.2 a]; exact b⟩⟩
/-- beside: some place next to it has the label -/
theorem bes_iff {L : Nat → Nat} {p q : Nat} (hp : p < 256) : besB L (nI (p % 16)) (nI (p / 16)) q = true ↔ ∃ r, r < 256 ∧ adj r p ∧ L r = q + 1 := by
  have hx : p % 16 < 16 := by omega
  have hy : p / 16 < 16 := by omega
  unfold besB
  rw [Bool.or_eq_true, Bool.or_eq_true, Bool.or_eq_true, of_1 (sd_w hx hy), of_1 (sd_e hx hy), of_1 (sd_n hx hy), of_1 (sd_s hx hy)]
  constructor
  · rintro (((⟨a, b⟩ | ⟨a, b⟩) | ⟨a, b⟩) | ⟨a, b⟩)
    · exact ⟨_, by omega, by unfold adj; omega, b⟩
    · exact ⟨_, by omega, by unfold adj; omega, b⟩
    · exact ⟨_, by omega, by unfold adj; omega, b⟩
    · exact ⟨_, by omega, by unfold adj; omega, b⟩
  · rintro ⟨r, hr, ha, hL⟩
    unfold adj at ha
    rcases ha with ⟨h1, h2⟩ | ⟨h1, h2⟩ | h1 | h1
    · exact Or.inl (Or.inl (Or.inl ⟨by omega, by rw [show 16 * (p / 16) + (p % 16 - 1) = r by omega]; exact hL⟩))
    · exact Or.inl (Or.inl (Or.inr ⟨by omega, by rw [show 16 * (p / 16) + (p % 16 + 1) = r by omega]; exact hL⟩))
    · exact Or.inl (Or.inr ⟨by omega, by rw [show 16 * (p / 16 - 1) + p % 16 = r by omega]; exact hL⟩)
    · exact Or.inr ⟨by omega, by rw [show 16 * (p / 16 + 1) + p % 16 = r by omega]; exact hL⟩
/-- THE REFERENCE: a sweep, the sweeps -/
theorem sw_snd {kd lb L : Nat → Nat} {q f : Nat} (hO : Old kd lb (q + 1)) (hS : Snd kd lb L (q + 1) f) (hf : L f = q + 1) : ∀ i, i ≤ 256 → Snd kd lb (swS kd q L i).1 (q + 1) f ∧ (swS kd q L i).1 f = q + 1
  | 0, _ => ⟨hS, hf⟩
  | i + 1, hi => by
    obtain ⟨h1, h2⟩ := sw_snd hO hS hf i (by omega)
    unfold swS
    split
    · rename_i hc
      obtain ⟨r, hr, ha, hL⟩ := (bes_iff (by omega)).mp hc.2.2
      have hri : Rch kd f i := Rch_s (Snd_v hO h1 hr hL) ha ⟨by omega, hc.1⟩
      refine ⟨fun p hp => ?_, ?_⟩
      · by_cases e : p = i
        · subst e; exact Or.inl ⟨un_s, hri⟩
        · show (un (swS kd q L i).1 i (q + 1) p = _ ∧ _) ∨ un (swS kd q L i).1 i (q + 1) p = _
          rw [un_n e]; exact h1 p hp
      · show un (swS kd q L i).1 i (q + 1) f = _
        by_cases e : f = i
        · subst e; exact un_s
        · rw [un_n e]; exact h2
    · exact ⟨h1, h2⟩
theorem sw_stay {kd L : Nat → Nat} {q : Nat} : ∀ i, (swS kd q L i).2 = false → swS kd q L i = (L, false) ∧ ∀ p, p < i → ¬ (2 ≤ kd p ∧ L p = 0 ∧ besB L (nI (p % 16)) (nI (p / 16)) q = true)
  | 0, _ => ⟨rfl, fun p hp => absurd hp (Nat.not_lt_zero _)⟩
  | i + 1, h => by
    unfold swS at h ⊢
    split at h
    · cases h
    · rename_i hc
      obtain ⟨e, hp⟩ := sw_stay i h
      rw [if_neg hc]
      refine ⟨e, fun p hpi => ?_⟩
      by_cases ep : p = i
      · subst ep; rw [e] at hc; exact hc
      · exact hp p (by omega)
set_option maxRecDepth 20000 in
theorem sp_res {kd lb : Nat → Nat} {q f : Nat} (hO : Old kd lb (q + 1)) (hf : Kn kd f) (h0 : lb f = 0) : ∀ (n : Nat) (L : Nat → Nat), Snd kd lb L (q + 1) f → L f = q + 1 → cnt (zer L) 256 < n → Res kd lb (sprd kd q n L) (q + 1) f
  | 0, _, _, _, h => absurd h (Nat.not_lt_zero _)
  | n + 1, L, hS, hL, hz => by
    obtain ⟨h1, h2⟩ := sw_snd hO hS hL 256 (Nat.le_refl _)
    by_cases hm : (swS kd q L 256).2 = true
    · rw [sp_t hm]
      exact sp_res hO hf h0 n _ h1 h2 (by have := (sw_zer (kd := kd) (q := q) (lb := L) 256 (Nat.le_refl _)).2 hm; omega)
    · have hm' : (swS kd q L 256).2 = false := by simpa using hm
      rw [sp_f hm']
      obtain ⟨e, hst⟩ := sw_stay 256 hm'
      rw [e]
      refine Res_of hO hf h0 hS hL (fun a b ha hb hab hLa hLb => hst b hb.1 ⟨hb.2, hLb, (bes_iff hb.1).mpr ⟨a, ha.1, hab, hLa⟩⟩)
/-- THE CLASS: a place is joined -/
def BI (kd lb : Nat → Nat) (v f : Nat) (t : Bst) : Prop := Snd kd lb t.1 v f ∧ (∀ k, k < t.2.2 → t.2.1 k < 256 ∧ t.1 (t.2.1 k) = v) ∧ (∀ p, p < 256 → t.1 p = v → ∃ k, k < t.2.2 ∧ t.2.1 k = p) ∧ t.2.2 = cnt (fun p => decide (t.1 p = v)) 256
theorem cnt_up {P : Nat → Bool} {p n : Nat} (hp : p < n) (h : P p = false) : cnt (un P p true) n = cnt P n + 1 := by
  have := cnt_un (P := un P p true) (p := p) (n := n) hp un_s
  rw [un_un, show un P p false = P by rw [← h]; exact un_self] at this
  exact this.symm
theorem BI_le {kd lb : Nat → Nat} {v f : Nat} {t : Bst} (hO : Old kd lb v) (hf : Kn kd f) (h100 : cnt (fun p => decide (2 ≤ kd p)) 256 ≤ 100) (hB : BI kd lb v f t) : t.2.2 ≤ 100 ∧ ∀ r, Kn kd r → t.1 r = 0 → 1 ≤ v → t.2.2 < 100 := by
  have hk : ∀ p, p < 256 → t.1 p = v → 2 ≤ kd p := fun p hp h => (Rch_K hf (Snd_v hO hB.1 hp h)).2
  have hmono : ∀ (P Q : Nat → Bool) (n : Nat), n ≤ 256 → (∀ p, p < n → P p = true → Q p = true) → cnt P n ≤ cnt Q n := fun P Q n => by
    induction n with
    | zero => intro _ _; exact Nat.le_refl _
    | succ n ih =>
      intro hn h
      have := ih (by omega) (fun p hp => h p (by omega))
      show cnt P n + (if P n then 1 else 0) ≤ cnt Q n + (if Q n then 1 else 0)
      by_cases hp : P n = true
      · rw [if_pos hp, if_pos (h n (by omega) hp)]; omega
      · rw [if_neg hp]; omega
  refine ⟨?_, fun r hr h0 hv => ?_⟩
  · rw [hB.2.2.2]
    exact Nat.le_trans (hmono _ _ 256 (Nat.le_refl _) (fun p hp h => decide_eq_true (hk p hp (of_decide_eq_true h)))) h100
  · rw [hB.2.2.2]
    have h1 := cnt_up (P := fun p => decide (t.1 p = v)) (p := r) (n := 256) hr.1 (decide_eq_false (by omega))
    have h2 : cnt (un (fun p => decide (t.1 p = v)) r true) 256 ≤ cnt (fun p => decide (2 ≤ kd p)) 256 := hmono _ _ 256 (Nat.le_refl _) (fun p hp h => by
      by_cases e : p = r
      · subst e; exact decide_eq_true hr.2
      · rw [un_n e] at h; exact decide_eq_true (hk p hp (of_decide_eq_true h)))
    omega
theorem join_BI {kd lb : Nat → Nat} {v f : Nat} {X Y : Int32} {r : Nat} {P : Prop} {t : Bst} (hv : 1 ≤ v) (hO : Old kd lb v) (hf : Kn kd f) (h100 : cnt (fun p => decide (2 ≤ kd p)) 256 ≤ 100) (hs : ((inB X 16 && inB Y 16) = true ↔ P) ∧ (P → plc X Y = r)) (hr : P → r < 256 ∧ (Kn kd r → Rch kd f r)) (hB : BI kd lb v f t) :
    BI kd lb v f (joinS kd v X Y t) ∧ (P → Kn kd r → (joinS kd v X Y t).1 r ≠ 0) ∧ (∀ p, t.1 p ≠ 0 → (joinS kd v X Y t).1 p = t.1 p) ∧ t.2.2 ≤ (joinS kd v X Y t).2.2 ∧ (∀ k, k < t.2.2 → (joinS kd v X Y t).2.1 k = t.2.1 k) := by
  unfold joinS
  by_cases hc : (inB X 16 && inB Y 16) = true ∧ t.2.2 < 100 ∧ 2 ≤ kd (plc X Y) ∧ t.1 (plc X Y) = 0
  · rw [if_pos hc]
    obtain ⟨h1, h2, h3, h4⟩ := hc
    have hP := hs.1.mp h1
    rw [hs.2 hP] at h3 h4 ⊢
    obtain ⟨hr1, hr2⟩ := hr hP
    have hKr : Kn kd r := ⟨hr1, h3⟩
    refine ⟨⟨fun p hp => ?_, fun k hk => ?_, fun p hp h => ?_, ?_⟩, fun _ _ => ?_, fun p h => ?_, Nat.le_succ _, fun k hk => ?_⟩
    · show (un t.1 r v p = v ∧ _) ∨ un t.1 r v p = _
      by_cases e : p = r
      · subst e; exact Or.inl ⟨un_s, hr2 hKr⟩
      · rw [un_n e]; exact hB.1 p hp
    · show un t.2.1 t.2.2 r k < 256 ∧ un t.1 r v (un t.2.1 t.2.2 r k) = v
      by_cases e : k = t.2.2
      · rw [e, un_s]; exact ⟨hr1, un_s⟩
      · have hk' : k < t.2.2 + 1 := hk
        rw [un_n e]
        obtain ⟨a, b⟩ := hB.2.1 k (by omega)
        refine ⟨a, ?_⟩
        by_cases e2 : t.2.1 k = r
        · rw [e2]; exact un_s
        · rw [un_n e2]; exact b
    · have h' : un t.1 r v p = v := h
      by_cases e : p = r
      · exact ⟨t.2.2, Nat.lt_succ_self _, by show un t.2.1 t.2.2 r t.2.2 = p; rw [un_s, e]⟩
      · rw [un_n e] at h'
        obtain ⟨k, hk, hk2⟩ := hB.2.2.1 p hp h'
        exact ⟨k, Nat.lt_succ_of_lt hk, by show un t.2.1 t.2.2 r k = p; rw [un_n (by omega)]; exact hk2⟩
    · show t.2.2 + 1 = cnt (fun p => decide (un t.1 r v p = v)) 256
      have e : (fun p => decide (un t.1 r v p = v)) = un (fun p => decide (t.1 p = v)) r true := by
        funext p
        by_cases e : p = r
        · subst e; simp [un]
        · simp [un, e]
      rw [e, cnt_up hr1 (decide_eq_false (by omega)), ← hB.2.2.2]
    · show un t.1 r v r ≠ 0
      rw [un_s]; omega
    · show un t.1 r v p = t.1 p
      exact un_n (fun e => h (by rw [e]; exact h4))
    · show un t.2.1 t.2.2 r k = t.2.1 k
      exact un_n (by omega)
  · rw [if_neg hc]
    refine ⟨hB, fun hP hK h0 => hc ?_, fun _ _ => rfl, Nat.le_refl _, fun _ _ => rfl⟩
    rw [hs.2 hP]
    exact ⟨hs.1.mpr hP, (BI_le hO hf h100 hB).2 r hK h0 hv, hK.2, h0⟩
