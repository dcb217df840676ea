/-! MODEL, pure -/
/-- taught rows, laid flat -/
def fM (M : Nat → Nat → Nat) : Nat → Nat := fun j => M (j / 8) (j % 8)
theorem fM_at {M : Nat → Nat → Nat} {t k : Nat} (hk : k < 8) : fM M (8 * t + k) = M t k := by
  unfold fM; rw [show (8 * t + k) / 8 = t by omega, show (8 * t + k) % 8 = k by omega]
theorem fM_up {M : Nat → Nat → Nat} {t k x : Nat} (hk : k < 8) : un (fM M) (8 * t + k) x = fM (un M t (un (M t) k x)) := by
  funext j
  show (if j = 8 * t + k then x else M (j / 8) (j % 8)) = (if j / 8 = t then (fun i => if i = k then x else M t i) else M (j / 8)) (j % 8)
  by_cases h : j / 8 = t
  · rw [if_pos h]
    by_cases h2 : j % 8 = k
    · rw [if_pos (by omega)]; simp [h2]
    · rw [if_neg (by omega), h]; simp [h2]
  · rw [if_neg h, if_neg (by omega)]
theorem un_un {α : Type} {f : Nat → α} {k : Nat} {x y : α} : un (un f k x) k y = un f k y := by
  funext j; unfold un; split <;> rfl
theorem fM_step {M : Nat → Nat → Nat} {g : Nat → Nat} {t k : Nat} (hk : k < 8) : un (fM (un M t (fu g (M t) k))) (8 * t + k) (g k) = fM (un M t (fu g (M t) (k + 1))) := by
  rw [fM_up hk, un_un, un_s, fu_s]
theorem un_self {α : Type} {f : Nat → α} {k : Nat} : un f k (f k) = f := by
  funext j; unfold un; split
  · rename_i h; rw [h]
  · rfl
def CM (M : Nat → Nat → Nat) : Nat → Nat → Nat := fun t => ceN (M t)
/-- a state of the reference -/
def MI (K n : Nat) (dn wn vn kn : Nat → Nat) (M : Nat → Nat → Nat) (kd : Nat → Nat) (px : Nat) (F : Nat → Nat) (fc : Nat) (rw lb : Nat → Nat) : Prop :=
  (1 ≤ K ∧ K ≤ 4) ∧ n ≤ 40 ∧ ((∀ k, dn k ≤ 255) ∧ (∀ k, wn k ≤ 255) ∧ (∀ k, vn k ≤ 255)) ∧ ((∀ i, kn i ≤ 255) ∧ (∀ i k, M i k ≤ 255)) ∧ ((∀ p, kd p ≤ 6) ∧ px ≤ 100 ∧ (∀ p, lb p ≤ 256)) ∧ ((∀ k, F k ≤ 255) ∧ fc ≤ 400) ∧ (∀ k, rw k ≤ 255)
theorem sumK_0 {kn : Nat → Nat} {C : Nat → Nat → Nat} {fc : Nat → Nat} {kd : Nat} {w : Int32} {n k : Nat} (h : cnt (okR kn kd w) n = 0) : sumK kn C fc kd w n k = sumK kn C fc kd w n (k + 1) := by
  show _ = sumK kn C fc kd w n k + (if cnt (okR kn kd w) n = 0 then 0 else cnt (samR kn C fc kd w k) n * 1000 / cnt (okR kn kd w) n)
  rw [if_pos h]; rfl
theorem sam_t {kn : Nat → Nat} {C : Nat → Nat → Nat} {fc : Nat → Nat} {kd : Nat} {w : Int32} {k i : Nat} (h : okR kn kd w i = true) (e : fc k = C i k) : samR kn C fc kd w k i = true := by simp [samR, h, e]
theorem sam_f {kn : Nat → Nat} {C : Nat → Nat → Nat} {fc : Nat → Nat} {kd : Nat} {w : Int32} {k i : Nat} (e : ¬ fc k = C i k) : samR kn C fc kd w k i = false := by simp [samR, e]
theorem sam_g {kn : Nat → Nat} {C : Nat → Nat → Nat} {fc : Nat → Nat} {kd : Nat} {w : Int32} {k i : Nat} (h : okR kn kd w i = false) : samR kn C fc kd w k i = false := by simp [samR, h]
theorem ev_le {d w v : Nat} (h : w ≤ d) : 0 = nI (evN d w v) := by simp [evN, h, nI_0]
theorem ev_lv {d w v : Nat} (h : v ≤ d) : 0 = nI (evN d w v) := by simp [evN, h, nI_0]
theorem ev_hi {d w v : Nat} (h1 : d < w) (h2 : d < v) (h : 255 < 256 * (v - d) / (w - d)) : 255 = nI (evN d w v) := by
  unfold evN; rw [if_neg (by omega), Nat.min_eq_left (by omega)]; rfl
theorem ev_lo {d w v : Nat} (h1 : d < w) (h2 : d < v) (h : 256 * (v - d) / (w - d) ≤ 255) : nI (256 * (v - d) / (w - d)) = nI (evN d w v) := by
  unfold evN; rw [if_neg (by omega), Nat.min_eq_right h]
theorem fuM_le {g m : Nat → Nat} {n b : Nat} (hg : ∀ k, g k ≤ b) (hm : ∀ k, m k ≤ b) : ∀ k, fu g m n k ≤ b := fun k => by
  unfold fu; split
  · exact hg k
  · exact hm k
theorem tcM_eq {dn wn vn rw : Nat → Nat} {M : Nat → Nat → Nat} {n : Nat} : un M n (fu (fu (rwN dn wn vn) rw 8) (M n) 8) = tcM dn wn vn M n := by
  unfold tcM
  congr 1
  funext k
  unfold fu
  by_cases h : k < 8 <;> simp [h]
theorem MI_rw {K n : Nat} {dn wn vn kn : Nat → Nat} {M : Nat → Nat → Nat} {kd : Nat → Nat} {px : Nat} {F : Nat → Nat} {fc : Nat} {rw lb rw' : Nat → Nat} (h : MI K n dn wn vn kn M kd px F fc rw lb) (h1 : ∀ k, rw' k ≤ 255) : MI K n dn wn vn kn M kd px F fc rw' lb := by
  obtain ⟨a, b, c, d, e, f, -⟩ := h
  exact ⟨a, b, c, d, e, f, h1⟩
