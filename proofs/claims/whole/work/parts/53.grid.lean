/-- the world behind new int[N][M] -/
theorem mn_world {D : va_G} {A : Nat → Prop} {wl : va_W} {H H1 : Heap} {cG cI : ClassId} {N M : Nat} (h1 : H1.size = H.size + 1 + N) (h2 : H1[H.size]? = some (arrV cG N (fun j => va_rf (if j < N then some (H.size + 1 + j) else none)))) (h3 : ∀ j, j < N → H1[H.size + 1 + j]? = some (arrV cI M (fun _ => .int 0))) (h4 : ∀ a, a < H.size → H1[a]? = H[a]?) (hP : va_P D vwCl wl H) (hD : va_D A wl) (hA : ∀ q, H.size ≤ q → A q) :
    va_P D vwCl ([(H.size, .inl (cG, N, .inr (.inr (.inr (.inr (fun i => if i < N then some (H.size + 1 + i) else none))))))] ++ ((List.range N).map (fun i => (H.size + 1 + i, .inl (cI, M, .inl (nf (fun _ => 0))))) ++ wl)) H1 ∧ va_D A ([(H.size, .inl (cG, N, .inr (.inr (.inr (.inr (fun i => if i < N then some (H.size + 1 + i) else none))))))] ++ ((List.range N).map (fun i => (H.size + 1 + i, .inl (cI, M, .inl (nf (fun _ => 0))))) ++ wl)) := by
  have hrw : ∀ (k : Nat) (x : Nat × va_E), ((List.range N).map (fun i => ((H.size + 1 + i, .inl (cI, M, .inl (nf (fun _ => 0)))) : Nat × va_E)))[k]? = some x → k < N ∧ x = (H.size + 1 + k, .inl (cI, M, .inl (nf (fun _ => 0)))) := fun k x hx => by
    rw [List.getElem?_map] at hx
    by_cases h9 : k < N
    · rw [List.getElem?_range h9] at hx
      exact ⟨h9, (Option.some.inj hx).symm⟩
    · rw [List.getElem?_eq_none (by rw [List.length_range]; omega)] at hx
      cases hx
  have hone : ∀ {y : Nat × va_E} (k : Nat) (x : Nat × va_E), [y][k]? = some x → k = 0 ∧ x = y := fun {y} k x hx => by
    cases k with
    | zero => exact ⟨rfl, (Option.some.inj hx).symm⟩
    | succ k => cases hx
  have hlt : ∀ (k : Nat) (x : Nat × va_E), wl[k]? = some x → x.1 < H.size := fun k x hx => (hP k x hx).lt
  constructor
  · refine va_P.app (fun k x hx => ?_) (va_P.app (fun k x hx => ?_) (hP.kept (fun k x hx => h4 _ (hlt k x hx))))
    · obtain ⟨-, rfl⟩ := hone k x hx
      show H1[H.size]? = some (vp_cell _ _)
      rw [vp_cell_q]
      exact h2
    · obtain ⟨hk, rfl⟩ := hrw k x hx
      show H1[H.size + 1 + k]? = some (vp_cell _ _)
      rw [vp_cell_i]
      exact h3 k hk
  · refine va_D.app ⟨fun i j x y hi hj _ => ?_, fun k x hx => ?_⟩ (va_D.app ⟨fun i j x y hi hj hxy => ?_, fun k x hx => ?_⟩ hD (fun i j x y hi hj hxy => ?_)) (fun i j x y hi hj hxy => ?_)
    · rw [(hone i x hi).1, (hone j y hj).1]
    · rw [(hone k x hx).2]; exact hA _ (Nat.le_refl _)
    · rw [(hrw i x hi).2, (hrw j y hj).2] at hxy
      have h9 : H.size + 1 + i = H.size + 1 + j := hxy
      omega
    · rw [(hrw k x hx).2]; exact hA _ (by show H.size ≤ H.size + 1 + k; omega)
    · have h8 := hlt j y hj
      rw [(hrw i x hi).2] at hxy
      have h9 : H.size + 1 + i = y.1 := hxy
      omega
    · rw [(hone i x hi).2] at hxy
      have h9 : H.size = y.1 := hxy
      by_cases hj9 : j < N
      · rw [List.getElem?_append_left (by rw [List.length_map, List.length_range]; exact hj9)] at hj
        rw [(hrw j y hj).2] at h9
        have h8 : H.size = H.size + 1 + j := h9
        omega
      · rw [List.getElem?_append_right (by rw [List.length_map, List.length_range]; omega)] at hj
        have h8 := hlt _ y hj
        omega
