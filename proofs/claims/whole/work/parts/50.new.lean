/-! NEW: a new cell goes to the front of the world -/
theorem g_frP {D : va_G} {cl : List vw_C} {wl : va_W} {x : Nat × va_E} {H : Heap} (h : va_P D cl (wl ++ [x]) H) : va_P D cl (x :: wl) H := by
  have h2 : va_P D cl (([] ++ wl) ++ [x]) H := h
  exact h2.swap
theorem g_frD {A : Nat → Prop} {wl : va_W} {x : Nat × va_E} (h : va_D A (wl ++ [x])) : va_D A (x :: wl) := by
  have h2 : va_D A (([] ++ wl) ++ [x]) := h
  exact h2.swap
theorem g_clI {D : va_G} {cI cJ cG cA : ClassId} {s : State} (hK : va_K D vwCl (tyl cI cJ cG) s) (h : va_K D vwCl (tyl cI cJ cG ++ [(cA, .int)]) s) : cA = cI := by
  have h1 : s.vm.findClass ("[" ++ (FieldType.int).toString) = some cI := (hK.2 0 (cI, .int) rfl).2
  have h2 : s.vm.findClass ("[" ++ (FieldType.int).toString) = some cA := (h.2 3 (cA, .int) rfl).2
  rw [h1] at h2
  exact (Option.some.inj h2).symm
theorem g_clJ {D : va_G} {cI cJ cG cA : ClassId} {s : State} (hK : va_K D vwCl (tyl cI cJ cG) s) (h : va_K D vwCl (tyl cI cJ cG ++ [(cA, .long)]) s) : cA = cJ := by
  have h1 : s.vm.findClass ("[" ++ (FieldType.long).toString) = some cJ := (hK.2 1 (cJ, .long) rfl).2
  have h2 : s.vm.findClass ("[" ++ (FieldType.long).toString) = some cA := (h.2 3 (cA, .long) rfl).2
  rw [h1] at h2
  exact (Option.some.inj h2).symm
section GNEW
variable {p : Program} {l : Launch} {e : Env} {R : Room} {s : State} {m : MethodId} {args : Array Value} {below : List Frame} {meth : Method} {c : Code} {H : Heap} {locs : List Loc} {cells slots : Nat} {Q : State → Prop}
variable {cc : ByteArray} {pc : Nat} {ls : Array Slot} {rest : List Value} {D : va_G} {A : Nat → Prop} {wl : va_W} {H0 : Heap} {cI cJ cG : ClassId}
theorem g_newI (hexec : p.tables.exec = Jvm.exec) (hb : c.code = cc) (harr : (Cond.arrayClass .int).before args s = true) (hK : va_K D vwCl (tyl cI cJ cG) s) (hP : va_P D vwCl wl H) (hD : va_D A wl) (hS : va_S A H0 H locs) (hA : ∀ q, H0.size ≤ q → A q)
    {n : Int32} (N : Nat) (hN : n = nI N) (hsm : N ≤ 1000) (hcells : cells + 1 ≤ R.cells) (hslots : slots + N ≤ R.slots) (hdg : decode cc pc = .ok (.newarray .int, 2))
    (kk : ∀ (q : Nat) (H1 : Heap), va_P D vwCl ((q, .inl (cI, N, .inl (nf (fun _ => 0)))) :: wl) H1 → va_D A ((q, .inl (cI, N, .inl (nf (fun _ => 0)))) :: wl) → va_S A H0 H1 locs → W p l e R s m args below meth c H1 locs (cells + 1) (slots + N) Q (F0 m (pc + 2) ls (.ref q :: rest))) : W p l e R s m args below meth c H locs cells slots Q (F0 m pc ls (.int n :: rest)) := by
  subst hN
  refine va_newa (atype := .int) (ty := .int) (N' := N) (a0 := (N, .inl (nf (fun _ => 0)))) hexec hb harr rfl hK hP hD hS hA (fun _ => rfl) (nI_pos (by omega)) (nI_clamp (by omega)) (by show N * 4 ≤ _; omega) hcells hslots hdg (fun q cA H1 hK1 hP1 hD1 hS1 => ?_)
  cases g_clI hK hK1
  exact kk q H1 (g_frP hP1) (g_frD hD1) hS1
theorem g_newJ (hexec : p.tables.exec = Jvm.exec) (hb : c.code = cc) (harr : (Cond.arrayClass .long).before args s = true) (hK : va_K D vwCl (tyl cI cJ cG) s) (hP : va_P D vwCl wl H) (hD : va_D A wl) (hS : va_S A H0 H locs) (hA : ∀ q, H0.size ≤ q → A q)
    {n : Int32} (N : Nat) (hN : n = nI N) (hsm : N ≤ 1000) (hcells : cells + 1 ≤ R.cells) (hslots : slots + N ≤ R.slots) (hdg : decode cc pc = .ok (.newarray .long, 2))
    (kk : ∀ (q : Nat) (H1 : Heap), va_P D vwCl ((q, .inl (cJ, N, .inr (.inl (fun _ => 0)))) :: wl) H1 → va_D A ((q, .inl (cJ, N, .inr (.inl (fun _ => 0)))) :: wl) → va_S A H0 H1 locs → W p l e R s m args below meth c H1 locs (cells + 1) (slots + N) Q (F0 m (pc + 2) ls (.ref q :: rest))) : W p l e R s m args below meth c H locs cells slots Q (F0 m pc ls (.int n :: rest)) := by
  subst hN
  refine va_newa (atype := .long) (ty := .long) (N' := N) (a0 := (N, .inr (.inl (fun _ => 0)))) hexec hb harr rfl hK hP hD hS hA (fun _ => rfl) (nI_pos (by omega)) (nI_clamp (by omega)) (by show N * 8 ≤ _; omega) hcells hslots hdg (fun q cA H1 hK1 hP1 hD1 hS1 => ?_)
  cases g_clJ hK hK1
  exact kk q H1 (g_frP hP1) (g_frD hD1) hS1
end GNEW
/-- kinds of 1 .. 4, of another number 1 -/
def kN (x : Int32) : Nat := if (1 : Int32) ≤ x ∧ x ≤ 4 then x.toNatClampNeg else 1
theorem kN_lo {x : Int32} (h : x < 1) : kN x = 1 := if_neg (fun q => by
  have := q.1; rw [Int32.le_iff_toInt_le] at this; rw [Int32.lt_iff_toInt_lt] at h; omega)
theorem kN_hi {x : Int32} (h : (4 : Int32) < x) : kN x = 1 := if_neg (fun q => by
  have := q.2; rw [Int32.le_iff_toInt_le] at this; rw [Int32.lt_iff_toInt_lt] at h; omega)
theorem kN_in {x : Int32} (h1 : ¬ x < 1) (h4 : ¬ (4 : Int32) < x) : x = nI (kN x) := by
  rw [Int32.lt_iff_toInt_lt, show (1 : Int32).toInt = 1 from by decide] at h1
  rw [Int32.lt_iff_toInt_lt, show (4 : Int32).toInt = 4 from by decide] at h4
  obtain ⟨j, hj, rfl⟩ := vp_in_of (x := x) (n := 5) (vp_in_iff.mpr ⟨by omega, by omega⟩) (by omega)
  unfold kN
  rw [if_pos ⟨by rw [Int32.le_iff_toInt_le, show (1 : Int32).toInt = 1 from by decide]; omega, by rw [Int32.le_iff_toInt_le, show (4 : Int32).toInt = 4 from by decide]; omega⟩, nI_clamp (by omega)]
theorem kN_ok (x : Int32) : 1 ≤ kN x ∧ kN x ≤ 4 := by
  unfold kN
  split
  · rename_i h
    have h1 := h.1; have h4 := h.2
    rw [Int32.le_iff_toInt_le, show (1 : Int32).toInt = 1 from by decide] at h1
    rw [Int32.le_iff_toInt_le, show (4 : Int32).toInt = 4 from by decide] at h4
    obtain ⟨j, hj, rfl⟩ := vp_in_of (x := x) (n := 5) (vp_in_iff.mpr ⟨by omega, by omega⟩) (by omega)
    rw [nI_toInt (by omega)] at h1 h4
    rw [nI_clamp (by omega)]; omega
  · omega
theorem vc_ext {cA : ClassId} {n : Nat} {f g : Nat → Int32} (h : ∀ j, j < n → f j = g j) : vp_cell cA (n, .inl f) = vp_cell cA (n, .inl g) := by
  rw [vp_cell_i, vp_cell_i]
  unfold arrV
  congr 1
  apply Array.ext
  · simp
  · intro i h1 h2
    simp at h1 ⊢
    exact h i h1
/-- a row's content, as far as it reaches -/
theorem g_exP {D : va_G} {cl : List vw_C} {wl : va_W} {q n : Nat} {cA : ClassId} {f g : Nat → Int32} {H : Heap} (h : va_P D cl ((q, .inl (cA, n, .inl f)) :: wl) H) (e : ∀ j, j < n → f j = g j) : va_P D cl ((q, .inl (cA, n, .inl g)) :: wl) H := by
  intro k x hk
  cases k with
  | zero =>
    have hx : x = (q, .inl (cA, n, .inl g)) := (Option.some.inj hk).symm
    subst hx
    have h0 := h 0 (q, .inl (cA, n, .inl f)) rfl
    show H[q]? = some (vp_cell cA (n, .inl g))
    rw [← vc_ext e]
    exact h0
  | succ k => exact h (k + 1) x hk
theorem g_exD {A : Nat → Prop} {wl : va_W} {q n : Nat} {cA : ClassId} {f g : Nat → Int32} (h : va_D A ((q, .inl (cA, n, .inl f)) :: wl)) : va_D A ((q, .inl (cA, n, .inl g)) :: wl) := by
  have := h.set (p := 0) (e := .inl (cA, n, .inl g)) rfl
  exact this
theorem fil_255 {j : Nat} (h : j < 8) : fu (fun _ => (255 : Int32)) (nf (fun _ => 0)) 8 j = nf (fun _ => 255) j := by rw [fu_lt h]; rfl
theorem fil_m2 {j : Nat} (h : j < 256) : fu (fun _ => (-2 : Int32)) (nf (fun _ => 0)) 256 j = k2 (fun _ => 0) j := by rw [fu_lt h]; rfl
theorem fil_m1 {j : Nat} (h : j < 256) : fu (fun _ => (-1 : Int32)) (nf (fun _ => 0)) 256 j = l1 (fun _ => 0) j := by rw [fu_lt h]; rfl
theorem zer_l1 : nf (fun _ => 0) = l1 (fun _ => 1) := by
  funext j
  exact (add_sub1 0).symm
theorem zer_fM : (fun _ => 0) = fM (fun _ _ => 0) := rfl
theorem wh_P {D : va_G} {cl : List vw_C} {wl : va_W} {x y : Nat × va_E} {q : Nat} {cA : ClassId} {H : Heap} (h : va_P D cl (x :: y :: (q, .inl (cA, 8, .inl (nf (fu (fun _ => 255) (fun _ => 0) 8)))) :: wl) H) : va_P D cl (x :: y :: (q, .inl (cA, 8, .inl (nf (fun _ => 255)))) :: wl) H := by
  have h1 := va_P.part (X := [x, y, (q, .inl (cA, 8, .inl (nf (fu (fun _ => 255) (fun _ => 0) 8))))]) (pl := wl) (cx := [(q, .inl (cA, 8, .inl (nf (fu (fun _ => 255) (fun _ => 0) 8)))), x, y]) h [2, 0, 1] rfl
  have h2 := g_exP (g := nf (fun _ => 255)) h1 (fun j hj => congrArg nI (fu_lt hj))
  exact va_P.part (X := [(q, .inl (cA, 8, .inl (nf (fun _ => 255)))), x, y]) (pl := wl) (cx := [x, y, (q, .inl (cA, 8, .inl (nf (fun _ => 255))))]) h2 [1, 2, 0] rfl
theorem wh_D {A : Nat → Prop} {wl : va_W} {x y : Nat × va_E} {q : Nat} {cA : ClassId} {f g : Nat → Int32} (h : va_D A (x :: y :: (q, .inl (cA, 8, .inl f)) :: wl)) : va_D A (x :: y :: (q, .inl (cA, 8, .inl g)) :: wl) := h.set (p := 2) (e := .inl (cA, 8, .inl g)) rfl
