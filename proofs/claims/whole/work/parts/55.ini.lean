theorem mb_P {D : va_G} {cl : List vw_C} {X O R p q : va_W} {H : Heap} (h : va_P D cl (X ++ (p ++ (q ++ (O ++ R)))) H) : va_P D cl ((X ++ O) ++ (p ++ (q ++ R))) H := by
  rw [show X ++ (p ++ (q ++ (O ++ R))) = (X ++ (p ++ q)) ++ (O ++ R) from by simp only [List.append_assoc]] at h
  have h1 := h.swap
  rw [show (X ++ (O ++ R)) ++ (p ++ q) = ((X ++ O) ++ R) ++ (p ++ q) from by simp only [List.append_assoc]] at h1
  have h2 := h1.swap
  rw [show ((X ++ O) ++ (p ++ q)) ++ R = (X ++ O) ++ (p ++ (q ++ R)) from by simp only [List.append_assoc]] at h2
  exact h2
theorem mb_D {A : Nat → Prop} {X O R p q : va_W} (h : va_D A (X ++ (p ++ (q ++ (O ++ R))))) : va_D A ((X ++ O) ++ (p ++ (q ++ R))) := by
  rw [show X ++ (p ++ (q ++ (O ++ R))) = (X ++ (p ++ q)) ++ (O ++ R) from by simp only [List.append_assoc]] at h
  have h1 := h.swap
  rw [show (X ++ (O ++ R)) ++ (p ++ q) = ((X ++ O) ++ R) ++ (p ++ q) from by simp only [List.append_assoc]] at h1
  have h2 := h1.swap
  rw [show ((X ++ O) ++ (p ++ q)) ++ R = (X ++ O) ++ (p ++ (q ++ R)) from by simp only [List.append_assoc]] at h2
  exact h2
