abbrev rX2_fillCells : Room := { frames := 0, cells := 0, slots := 0, locals := 0 }
set_option maxHeartbeats 4000000 in
set_option maxRecDepth 100000 in
theorem c_X2_fillCells (l : Launch) (D : va_G) (cI cJ cG : ClassId) (sz : Nat) (wl : va_W) (a_ b_ qa qb : Nat) (f g : Nat → Nat) (hqa : wl[qa]? = some (a_, .inl (cI, 8, .inl (nf f)))) (hqb : wl[qb]? = some (b_, .inl (cI, 7, .inl (nf g)))) (hq : qb ≠ qa) (hf : ∀ k, f k ≤ 255) : Met l yX2_fillCells wsX2_fillCells rX2_fillCells (gP D (tyl cI cJ cG) [.ref a_, .ref b_] (wl) sz) (gQv D (tyl cI cJ cG) (wl) sz (fun (_ : Unit) => True) (fun _ => ((wl.set qb (b_, .inl (cI, 7, .inl (nf (fu (ceN f) g 7)))))))) 0 0 (va_A (wl) sz) := by
  refine gMet (cc := cX2_fillCells) (maxL := 3) (ret := none) (ls0 := [(0, .ref a_), (1, .ref b_)]) (by decide) rfl (Nat.le_of_ble_eq_true rfl) rfl ?_
  intro p e s m below meth c hx hb hr hts hown hlocks hml hname A hA hAe hsz Q hQe H locs hP hK hD hS ls hl
  have hown : s.vm.findClass RX2 = some m.cls := hown
  have hqb0 : wl[qb]? = some (b_, .inl (cI, 7, .inl (nf (fu (ceN f) g 0)))) := by rw [fu_0]; exact hqb
  rw [← sl_self hqb0] at hP hD
  refine lv_iconst (v := 0) hx hb dX2_fillCells_0 (by decide) ?_
  refine lv_istore_n (lv' := [(2, .int 0), (0, .ref a_), (1, .ref b_)]) hx hb dX2_fillCells_1 rfl hl (by decide) rfl (fun ls hl => ?_)
  have L_2 : ∀ (n_2 : Nat) (i : Nat) (hi : i ≤ 7), 7 - i < n_2 → ∀ (H : Heap) (locs : List Loc) (ls : Array Slot), va_P D vwCl ((wl.set qb (b_, .inl (cI, 7, .inl (nf (fu (ceN f) g i)))))) H → va_D A ((wl.set qb (b_, .inl (cI, 7, .inl (nf (fu (ceN f) g i)))))) → va_S A s.heap H locs → lv_has ls 3 [(2, .int (nI i)), (0, .ref a_), (1, .ref b_)] → W p l e (headSpec wsX2_fillCells rX2_fillCells).room s m ([.ref a_, .ref b_] : List Value).toArray below meth c H locs 0 0 Q (F0 m 2 ls []) := by
    intro n_2
    induction n_2 with
    | zero => intro i hi hn_; exact absurd hn_ (Nat.not_lt_zero _)
    | succ n_2 ih_2 =>
      intro i hi hn_2 H locs ls hP hD hS hl
      refine lv_iload_n hx hb dX2_fillCells_2 rfl (lv_at hl 0 rfl) ?_
      refine lv_bipush (v := 7) hx hb dX2_fillCells_3 (by decide) ?_
      refine lv_icmp_ge (tgt := 33) hx hb dX2_fillCells_5 (by decide) (fun c5 => ?_) (fun c5 => ?_)
      · skip
        have hi8 := lp_e (n := 7) c5 hi
        subst hi8
        subst hQe
        subst hAe
        subst hsz
        exact g_vret hx hb hr hlocks () trivial hP hK hD hS dX2_fillCells_33
      · skip
        have hi8 := lp_l (n := 7) c5 hi
        have hf0 := hf i
        have hf1 := hf (i + 1)
        refine lv_aload_n hx hb dX2_fillCells_8 rfl (lv_at hl 2 rfl) ?_
        refine lv_iload_n hx hb dX2_fillCells_9 rfl (lv_at hl 0 rfl) ?_
        refine lv_aload_n hx hb dX2_fillCells_10 rfl (lv_at hl 1 rfl) ?_
        refine lv_iload_n hx hb dX2_fillCells_11 rfl (lv_at hl 0 rfl) ?_
        refine lv_iconst (v := 1) hx hb dX2_fillCells_12 (by decide) ?_
        refine lv_iadd hx hb dX2_fillCells_13 ?_
        refine lv_topi (fun x13 ex13 => ?_)
        obtain rfl : x13 = nI (i + 1) := by rw [ex13]; exact nI_1 _
        refine va_iald hx hb hK hP (qa) 0 (sl_ne hq hqa) rfl (by first | exact vp_in_nI (by omega) (by omega) | assumption) dX2_fillCells_14 ?_
        refine lv_topi (fun x14 ex14 => ?_)
        rw [nI_clamp (by omega)] at ex14
        obtain rfl : x14 = nI (f (i + 1)) := by exact ex14
        refine lv_aload_n hx hb dX2_fillCells_15 rfl (lv_at hl 1 rfl) ?_
        refine lv_iload_n hx hb dX2_fillCells_16 rfl (lv_at hl 0 rfl) ?_
        refine va_iald hx hb hK hP (qa) 0 (sl_ne hq hqa) rfl (by first | exact vp_in_nI (by omega) (by omega) | assumption) dX2_fillCells_17 ?_
        refine lv_topi (fun x17 ex17 => ?_)
        rw [nI_clamp (by omega)] at ex17
        obtain rfl : x17 = nI (f i) := by exact ex17
        refine lv_isub hx hb dX2_fillCells_18 ?_
        refine lv_topi (fun x18 ex18 => ?_)
        refine lv_sipush (v := 256) hx hb dX2_fillCells_19 (by decide) ?_
        refine lv_iadd hx hb dX2_fillCells_22 ?_
        refine lv_topi (fun x22 ex22 => ?_)
        obtain rfl : x22 = nI (f (i + 1) + 256 - f i) := by rw [ex22, ex18]; exact ce_num hf0
        refine lv_bipush (v := 64) hx hb dX2_fillCells_23 (by decide) ?_
        refine lv_idiv hx hb dX2_fillCells_25 (by decide) ?_
        refine lv_topi (fun x25 ex25 => ?_)
        obtain rfl : x25 = nI (ceN f i) := by rw [ex25]; exact pk_div (a := f (i + 1) + 256 - f i) (d := 64) (by omega) (by omega) (by omega)
        refine va_iast hx hb hK hP hD hS qb 0 (sl_eq hqb) rfl (vp_in_nI (by omega) (by omega)) dX2_fillCells_26 (fun H locs hP hD hS => ?_)
        rw [nI_clamp (by omega), List.set_set, nf_upd] at hP hD
        rw [show un (fu (ceN f) g i) i (ceN f i) = fu (ceN f) g (i + 1) from fu_s] at hP hD
        obtain ⟨x27, ex27⟩ : ∃ y : Int32, y = (nI i) + 1 := ⟨_, rfl⟩
        refine lv_iinc (v := x27) (lv' := [(2, .int x27), (0, .ref a_), (1, .ref b_)]) hx hb dX2_fillCells_27 hl (k := 0) rfl (by rw [ex27]; rfl) (by decide) rfl (fun ls hl => ?_)
        obtain rfl : x27 = nI (i + 1) := by rw [ex27]; exact nI_1 _
        refine lv_goto (tgt := 2) hx hb dX2_fillCells_30 (by decide) ?_
        exact ih_2 (i + 1) (by omega) (by omega) H locs ls hP hD hS (lv_sub hl [0, 1, 2] rfl)
  exact L_2 _ 0 (Nat.zero_le _) (Nat.lt_succ_self _) H locs ls hP hD hS (lv_sub hl [0, 1, 2] rfl)
abbrev rX2_size : Room := { frames := 0, cells := 0, slots := 0, locals := 0 }
set_option maxHeartbeats 4000000 in
set_option maxRecDepth 100000 in
theorem c_X2_size (l : Launch) (D : va_G) (cI cJ cG : ClassId) (sz : Nat) (R : va_W) (t_ rk_ ro_ rc_ al_ : Nat) (ar ac : Nat → Nat) (K n : Nat) (kn : Nat → Nat) (M C : Nat → Nat → Nat) (al : Nat → Nat) : Met l yX2_size wsX2_size rX2_size (gP D (tyl cI cJ cG) [.ref t_] ((t_, .inr (3, [.int (nI K), .ref rk_, .ref ro_, .ref rc_, .ref al_, .int (nI n)])) :: (rk_, .inl (cI, 40, .inl (nf kn))) :: (ro_, .inl (cG, 40, .inr (.inr (.inr (.inr (og ar)))))) :: (rc_, .inl (cG, 40, .inr (.inr (.inr (.inr (og ac)))))) :: (al_, .inl (cI, 7, .inl (nf al))) :: (pr cI ar M ++ (pq cI ac C ++ R))) sz) (gQi D (tyl cI cJ cG) ((t_, .inr (3, [.int (nI K), .ref rk_, .ref ro_, .ref rc_, .ref al_, .int (nI n)])) :: (rk_, .inl (cI, 40, .inl (nf kn))) :: (ro_, .inl (cG, 40, .inr (.inr (.inr (.inr (og ar)))))) :: (rc_, .inl (cG, 40, .inr (.inr (.inr (.inr (og ac)))))) :: (al_, .inl (cI, 7, .inl (nf al))) :: (pr cI ar M ++ (pq cI ac C ++ R))) sz (fun r (_ : Unit) => r = nI n) (fun _ => ((t_, .inr (3, [.int (nI K), .ref rk_, .ref ro_, .ref rc_, .ref al_, .int (nI n)])) :: (rk_, .inl (cI, 40, .inl (nf kn))) :: (ro_, .inl (cG, 40, .inr (.inr (.inr (.inr (og ar)))))) :: (rc_, .inl (cG, 40, .inr (.inr (.inr (.inr (og ac)))))) :: (al_, .inl (cI, 7, .inl (nf al))) :: (pr cI ar M ++ (pq cI ac C ++ R))))) 0 0 (va_A ((t_, .inr (3, [.int (nI K), .ref rk_, .ref ro_, .ref rc_, .ref al_, .int (nI n)])) :: (rk_, .inl (cI, 40, .inl (nf kn))) :: (ro_, .inl (cG, 40, .inr (.inr (.inr (.inr (og ar)))))) :: (rc_, .inl (cG, 40, .inr (.inr (.inr (.inr (og ac)))))) :: (al_, .inl (cI, 7, .inl (nf al))) :: (pr cI ar M ++ (pq cI ac C ++ R))) sz) := by
  refine gMet (cc := cX2_size) (maxL := 1) (ret := (some .int)) (ls0 := [(0, .ref t_)]) (by decide) rfl (Nat.le_of_ble_eq_true rfl) rfl ?_
  intro p e s m below meth c hx hb hr hts hown hlocks hml hname A hA hAe hsz Q hQe H locs hP hK hD hS ls hl
  have hown : s.vm.findClass RX2 = some m.cls := hown
  have in_X2 : ∀ w ∈ wsX20, w ∈ wsX2_size := by decide +kernel
  have f_30 := hts (.fieldLink RX2 30 "SpectrumHeads$Table" "count" "I") (by decide +kernel)
  refine lv_aload_n hx hb dX2_size_0 rfl (lv_at hl 0 rfl) ?_
  refine va_get (D := D) (ci := 3) (v := .int (nI n)) (C := RX2) (T := TX2) (N := 6) hx hb hts in_X2 hown hK hP 0 rfl rfl 5 (by decide) f_30 (fun _ h9 => h9) rfl dX2_size_1 ?_
  subst hQe
  subst hAe
  subst hsz
  exact g_iret hx hb hr hlocks () rfl hP hK hD hS dX2_size_4
abbrev rX2_has : Room := { frames := 0, cells := 0, slots := 0, locals := 0 }
set_option maxHeartbeats 4000000 in
set_option maxRecDepth 100000 in
theorem c_X2_has (l : Launch) (D : va_G) (cI cJ cG : ClassId) (sz : Nat) (R : va_W) (t_ rk_ ro_ rc_ al_ : Nat) (ar ac : Nat → Nat) (K n : Nat) (kn : Nat → Nat) (M C : Nat → Nat → Nat) (al : Nat → Nat) (x : Int32) (hn : n ≤ 40) : Met l yX2_has wsX2_has rX2_has (gP D (tyl cI cJ cG) [.ref t_, .int x] ((t_, .inr (3, [.int (nI K), .ref rk_, .ref ro_, .ref rc_, .ref al_, .int (nI n)])) :: (rk_, .inl (cI, 40, .inl (nf kn))) :: (ro_, .inl (cG, 40, .inr (.inr (.inr (.inr (og ar)))))) :: (rc_, .inl (cG, 40, .inr (.inr (.inr (.inr (og ac)))))) :: (al_, .inl (cI, 7, .inl (nf al))) :: (pr cI ar M ++ (pq cI ac C ++ R))) sz) (gQi D (tyl cI cJ cG) ((t_, .inr (3, [.int (nI K), .ref rk_, .ref ro_, .ref rc_, .ref al_, .int (nI n)])) :: (rk_, .inl (cI, 40, .inl (nf kn))) :: (ro_, .inl (cG, 40, .inr (.inr (.inr (.inr (og ar)))))) :: (rc_, .inl (cG, 40, .inr (.inr (.inr (.inr (og ac)))))) :: (al_, .inl (cI, 7, .inl (nf al))) :: (pr cI ar M ++ (pq cI ac C ++ R))) sz (fun r (_ : Unit) => r = bI (inB x n)) (fun _ => ((t_, .inr (3, [.int (nI K), .ref rk_, .ref ro_, .ref rc_, .ref al_, .int (nI n)])) :: (rk_, .inl (cI, 40, .inl (nf kn))) :: (ro_, .inl (cG, 40, .inr (.inr (.inr (.inr (og ar)))))) :: (rc_, .inl (cG, 40, .inr (.inr (.inr (.inr (og ac)))))) :: (al_, .inl (cI, 7, .inl (nf al))) :: (pr cI ar M ++ (pq cI ac C ++ R))))) 0 0 (va_A ((t_, .inr (3, [.int (nI K), .ref rk_, .ref ro_, .ref rc_, .ref al_, .int (nI n)])) :: (rk_, .inl (cI, 40, .inl (nf kn))) :: (ro_, .inl (cG, 40, .inr (.inr (.inr (.inr (og ar)))))) :: (rc_, .inl (cG, 40, .inr (.inr (.inr (.inr (og ac)))))) :: (al_, .inl (cI, 7, .inl (nf al))) :: (pr cI ar M ++ (pq cI ac C ++ R))) sz) := by
  refine gMet (cc := cX2_has) (maxL := 2) (ret := (some .boolean)) (ls0 := [(0, .ref t_), (1, .int x)]) (by decide) rfl (Nat.le_of_ble_eq_true rfl) rfl ?_
  intro p e s m below meth c hx hb hr hts hown hlocks hml hname A hA hAe hsz Q hQe H locs hP hK hD hS ls hl
  have hown : s.vm.findClass RX2 = some m.cls := hown
  have in_X2 : ∀ w ∈ wsX20, w ∈ wsX2_has := by decide +kernel
  have f_30 := hts (.fieldLink RX2 30 "SpectrumHeads$Table" "count" "I") (by decide +kernel)
  refine lv_iload_n hx hb dX2_has_0 rfl (lv_at hl 1 rfl) ?_
  refine lv_if_lt (tgt := 16) hx hb dX2_has_1 (by decide) (fun c1 => ?_) (fun c1 => ?_)
  · skip
    refine lv_iconst (v := 0) hx hb dX2_has_16 (by decide) ?_
    subst hQe
    subst hAe
    subst hsz
    exact g_zret hx hb hr hlocks rfl () (by first | (rw [inB_f1 c1]; rfl) | (rw [inB_f2 (n := n) (by omega) c9]; rfl) | (rw [inB_t (n := n) (by omega) c1 c9]; rfl)) hP hK hD hS dX2_has_17
  · skip
    refine lv_iload_n hx hb dX2_has_4 rfl (lv_at hl 1 rfl) ?_
    refine lv_aload_n hx hb dX2_has_5 rfl (lv_at hl 0 rfl) ?_
    refine va_get (D := D) (ci := 3) (v := .int (nI n)) (C := RX2) (T := TX2) (N := 6) hx hb hts in_X2 hown hK hP 0 rfl rfl 5 (by decide) f_30 (fun _ h9 => h9) rfl dX2_has_6 ?_
    refine lv_icmp_ge (tgt := 16) hx hb dX2_has_9 (by decide) (fun c9 => ?_) (fun c9 => ?_)
    · skip
      refine lv_iconst (v := 0) hx hb dX2_has_16 (by decide) ?_
      subst hQe
      subst hAe
      subst hsz
      exact g_zret hx hb hr hlocks rfl () (by first | (rw [inB_f1 c1]; rfl) | (rw [inB_f2 (n := n) (by omega) c9]; rfl) | (rw [inB_t (n := n) (by omega) c1 c9]; rfl)) hP hK hD hS dX2_has_17
    · skip
      refine lv_iconst (v := 1) hx hb dX2_has_12 (by decide) ?_
      refine lv_goto (tgt := 17) hx hb dX2_has_13 (by decide) ?_
      subst hQe
      subst hAe
      subst hsz
      exact g_zret hx hb hr hlocks rfl () (by first | (rw [inB_f1 c1]; rfl) | (rw [inB_f2 (n := n) (by omega) c9]; rfl) | (rw [inB_t (n := n) (by omega) c1 c9]; rfl)) hP hK hD hS dX2_has_17
abbrev rX2_kindOf : Room := { frames := 0, cells := 0, slots := 0, locals := 0 }
set_option maxHeartbeats 4000000 in
set_option maxRecDepth 100000 in
theorem c_X2_kindOf (l : Launch) (D : va_G) (cI cJ cG : ClassId) (sz : Nat) (R : va_W) (t_ rk_ ro_ rc_ al_ : Nat) (ar ac : Nat → Nat) (K n : Nat) (kn : Nat → Nat) (M C : Nat → Nat → Nat) (al : Nat → Nat) (i : Nat) (hi : i < 40) : Met l yX2_kindOf wsX2_kindOf rX2_kindOf (gP D (tyl cI cJ cG) [.ref t_, .int (nI i)] ((t_, .inr (3, [.int (nI K), .ref rk_, .ref ro_, .ref rc_, .ref al_, .int (nI n)])) :: (rk_, .inl (cI, 40, .inl (nf kn))) :: (ro_, .inl (cG, 40, .inr (.inr (.inr (.inr (og ar)))))) :: (rc_, .inl (cG, 40, .inr (.inr (.inr (.inr (og ac)))))) :: (al_, .inl (cI, 7, .inl (nf al))) :: (pr cI ar M ++ (pq cI ac C ++ R))) sz) (gQi D (tyl cI cJ cG) ((t_, .inr (3, [.int (nI K), .ref rk_, .ref ro_, .ref rc_, .ref al_, .int (nI n)])) :: (rk_, .inl (cI, 40, .inl (nf kn))) :: (ro_, .inl (cG, 40, .inr (.inr (.inr (.inr (og ar)))))) :: (rc_, .inl (cG, 40, .inr (.inr (.inr (.inr (og ac)))))) :: (al_, .inl (cI, 7, .inl (nf al))) :: (pr cI ar M ++ (pq cI ac C ++ R))) sz (fun r (_ : Unit) => r = nI (kn i)) (fun _ => ((t_, .inr (3, [.int (nI K), .ref rk_, .ref ro_, .ref rc_, .ref al_, .int (nI n)])) :: (rk_, .inl (cI, 40, .inl (nf kn))) :: (ro_, .inl (cG, 40, .inr (.inr (.inr (.inr (og ar)))))) :: (rc_, .inl (cG, 40, .inr (.inr (.inr (.inr (og ac)))))) :: (al_, .inl (cI, 7, .inl (nf al))) :: (pr cI ar M ++ (pq cI ac C ++ R))))) 0 0 (va_A ((t_, .inr (3, [.int (nI K), .ref rk_, .ref ro_, .ref rc_, .ref al_, .int (nI n)])) :: (rk_, .inl (cI, 40, .inl (nf kn))) :: (ro_, .inl (cG, 40, .inr (.inr (.inr (.inr (og ar)))))) :: (rc_, .inl (cG, 40, .inr (.inr (.inr (.inr (og ac)))))) :: (al_, .inl (cI, 7, .inl (nf al))) :: (pr cI ar M ++ (pq cI ac C ++ R))) sz) := by
  refine gMet (cc := cX2_kindOf) (maxL := 2) (ret := (some .int)) (ls0 := [(0, .ref t_), (1, .int (nI i))]) (by decide) rfl (Nat.le_of_ble_eq_true rfl) rfl ?_
  intro p e s m below meth c hx hb hr hts hown hlocks hml hname A hA hAe hsz Q hQe H locs hP hK hD hS ls hl
  have hown : s.vm.findClass RX2 = some m.cls := hown
  have in_X2 : ∀ w ∈ wsX20, w ∈ wsX2_kindOf := by decide +kernel
  have f_9 := hts (.fieldLink RX2 9 "SpectrumHeads$Table" "rowKinds" "[I") (by decide +kernel)
  refine lv_aload_n hx hb dX2_kindOf_0 rfl (lv_at hl 0 rfl) ?_
  refine va_get (D := D) (ci := 3) (v := .ref rk_) (C := RX2) (T := TX2) (N := 6) hx hb hts in_X2 hown hK hP 0 rfl rfl 1 (by decide) f_9 (fun _ h9 => h9) rfl dX2_kindOf_1 ?_
  refine lv_iload_n hx hb dX2_kindOf_4 rfl (lv_at hl 1 rfl) ?_
  refine va_iald hx hb hK hP (1) 0 rfl rfl (by first | exact vp_in_nI (by omega) (by omega) | assumption) dX2_kindOf_5 ?_
  refine lv_topi (fun x5 ex5 => ?_)
  rw [nI_clamp (by omega)] at ex5
  subst hQe
  subst hAe
  subst hsz
  exact g_iret hx hb hr hlocks () ex5 hP hK hD hS dX2_kindOf_6
abbrev rX2_cellsOf : Room := { frames := 0, cells := 0, slots := 0, locals := 0 }
set_option maxHeartbeats 4000000 in
set_option maxRecDepth 100000 in
theorem c_X2_cellsOf (l : Launch) (D : va_G) (cI cJ cG : ClassId) (sz : Nat) (R : va_W) (t_ rk_ ro_ rc_ al_ : Nat) (ar ac : Nat → Nat) (K n : Nat) (kn : Nat → Nat) (M C : Nat → Nat → Nat) (al : Nat → Nat) (i : Nat) (hi : i < 40) : Met l yX2_cellsOf wsX2_cellsOf rX2_cellsOf (gP D (tyl cI cJ cG) [.ref t_, .int (nI i)] ((t_, .inr (3, [.int (nI K), .ref rk_, .ref ro_, .ref rc_, .ref al_, .int (nI n)])) :: (rk_, .inl (cI, 40, .inl (nf kn))) :: (ro_, .inl (cG, 40, .inr (.inr (.inr (.inr (og ar)))))) :: (rc_, .inl (cG, 40, .inr (.inr (.inr (.inr (og ac)))))) :: (al_, .inl (cI, 7, .inl (nf al))) :: (pr cI ar M ++ (pq cI ac C ++ R))) sz) (gQr D (tyl cI cJ cG) ((t_, .inr (3, [.int (nI K), .ref rk_, .ref ro_, .ref rc_, .ref al_, .int (nI n)])) :: (rk_, .inl (cI, 40, .inl (nf kn))) :: (ro_, .inl (cG, 40, .inr (.inr (.inr (.inr (og ar)))))) :: (rc_, .inl (cG, 40, .inr (.inr (.inr (.inr (og ac)))))) :: (al_, .inl (cI, 7, .inl (nf al))) :: (pr cI ar M ++ (pq cI ac C ++ R))) sz (fun (_ : Unit) => True) (fun _ => ((t_, .inr (3, [.int (nI K), .ref rk_, .ref ro_, .ref rc_, .ref al_, .int (nI n)])) :: (rk_, .inl (cI, 40, .inl (nf kn))) :: (ro_, .inl (cG, 40, .inr (.inr (.inr (.inr (og ar)))))) :: (rc_, .inl (cG, 40, .inr (.inr (.inr (.inr (og ac)))))) :: (al_, .inl (cI, 7, .inl (nf al))) :: (pr cI ar M ++ (pq cI ac C ++ R)))) (fun _ => ac i)) 0 0 (va_A ((t_, .inr (3, [.int (nI K), .ref rk_, .ref ro_, .ref rc_, .ref al_, .int (nI n)])) :: (rk_, .inl (cI, 40, .inl (nf kn))) :: (ro_, .inl (cG, 40, .inr (.inr (.inr (.inr (og ar)))))) :: (rc_, .inl (cG, 40, .inr (.inr (.inr (.inr (og ac)))))) :: (al_, .inl (cI, 7, .inl (nf al))) :: (pr cI ar M ++ (pq cI ac C ++ R))) sz) := by
  refine gMet (cc := cX2_cellsOf) (maxL := 2) (ret := (some (.array .int))) (ls0 := [(0, .ref t_), (1, .int (nI i))]) (by decide) rfl (Nat.le_of_ble_eq_true rfl) rfl ?_
  intro p e s m below meth c hx hb hr hts hown hlocks hml hname A hA hAe hsz Q hQe H locs hP hK hD hS ls hl
  have hown : s.vm.findClass RX2 = some m.cls := hown
  have in_X2 : ∀ w ∈ wsX20, w ∈ wsX2_cellsOf := by decide +kernel
  have f_20 := hts (.fieldLink RX2 20 "SpectrumHeads$Table" "rowCells" "[[I") (by decide +kernel)
  refine lv_aload_n hx hb dX2_cellsOf_0 rfl (lv_at hl 0 rfl) ?_
  refine va_get (D := D) (ci := 3) (v := .ref rc_) (C := RX2) (T := TX2) (N := 6) hx hb hts in_X2 hown hK hP 0 rfl rfl 3 (by decide) f_20 (fun _ h9 => h9) rfl dX2_cellsOf_1 ?_
  refine lv_iload_n hx hb dX2_cellsOf_4 rfl (lv_at hl 1 rfl) ?_
  refine g_aald (v := (ac i)) hx hb hK hP 3 2 rfl rfl (by first | exact vp_in_nI (by omega) (by omega) | assumption) (og_nI hi) dX2_cellsOf_5 ?_
  subst hQe
  subst hAe
  subst hsz
  exact g_aret hx hb hr (Or.inr ⟨_, rfl⟩) hlocks () trivial rfl hP hK hD hS dX2_cellsOf_6
abbrev rX2_setKind : Room := { frames := 0, cells := 0, slots := 0, locals := 0 }
set_option maxHeartbeats 4000000 in
set_option maxRecDepth 100000 in
theorem c_X2_setKind (l : Launch) (D : va_G) (cI cJ cG : ClassId) (sz : Nat) (R : va_W) (t_ rk_ ro_ rc_ al_ : Nat) (ar ac : Nat → Nat) (K n : Nat) (kn : Nat → Nat) (M C : Nat → Nat → Nat) (al : Nat → Nat) (i x : Nat) (hi : i < 40) : Met l yX2_setKind wsX2_setKind rX2_setKind (gP D (tyl cI cJ cG) [.ref t_, .int (nI i), .int (nI x)] ((t_, .inr (3, [.int (nI K), .ref rk_, .ref ro_, .ref rc_, .ref al_, .int (nI n)])) :: (rk_, .inl (cI, 40, .inl (nf kn))) :: (ro_, .inl (cG, 40, .inr (.inr (.inr (.inr (og ar)))))) :: (rc_, .inl (cG, 40, .inr (.inr (.inr (.inr (og ac)))))) :: (al_, .inl (cI, 7, .inl (nf al))) :: (pr cI ar M ++ (pq cI ac C ++ R))) sz) (gQv D (tyl cI cJ cG) ((t_, .inr (3, [.int (nI K), .ref rk_, .ref ro_, .ref rc_, .ref al_, .int (nI n)])) :: (rk_, .inl (cI, 40, .inl (nf kn))) :: (ro_, .inl (cG, 40, .inr (.inr (.inr (.inr (og ar)))))) :: (rc_, .inl (cG, 40, .inr (.inr (.inr (.inr (og ac)))))) :: (al_, .inl (cI, 7, .inl (nf al))) :: (pr cI ar M ++ (pq cI ac C ++ R))) sz (fun (_ : Unit) => True) (fun _ => ((t_, .inr (3, [.int (nI K), .ref rk_, .ref ro_, .ref rc_, .ref al_, .int (nI n)])) :: (rk_, .inl (cI, 40, .inl (nf (un kn i x)))) :: (ro_, .inl (cG, 40, .inr (.inr (.inr (.inr (og ar)))))) :: (rc_, .inl (cG, 40, .inr (.inr (.inr (.inr (og ac)))))) :: (al_, .inl (cI, 7, .inl (nf al))) :: (pr cI ar M ++ (pq cI ac C ++ R))))) 0 0 (va_A ((t_, .inr (3, [.int (nI K), .ref rk_, .ref ro_, .ref rc_, .ref al_, .int (nI n)])) :: (rk_, .inl (cI, 40, .inl (nf kn))) :: (ro_, .inl (cG, 40, .inr (.inr (.inr (.inr (og ar)))))) :: (rc_, .inl (cG, 40, .inr (.inr (.inr (.inr (og ac)))))) :: (al_, .inl (cI, 7, .inl (nf al))) :: (pr cI ar M ++ (pq cI ac C ++ R))) sz) := by
  refine gMet (cc := cX2_setKind) (maxL := 3) (ret := none) (ls0 := [(0, .ref t_), (1, .int (nI i)), (2, .int (nI x))]) (by decide) rfl (Nat.le_of_ble_eq_true rfl) rfl ?_
  intro p e s m below meth c hx hb hr hts hown hlocks hml hname A hA hAe hsz Q hQe H locs hP hK hD hS ls hl
  have hown : s.vm.findClass RX2 = some m.cls := hown
  have in_X2 : ∀ w ∈ wsX20, w ∈ wsX2_setKind := by decide +kernel
  have f_9 := hts (.fieldLink RX2 9 "SpectrumHeads$Table" "rowKinds" "[I") (by decide +kernel)
  refine lv_aload_n hx hb dX2_setKind_0 rfl (lv_at hl 0 rfl) ?_
  refine va_get (D := D) (ci := 3) (v := .ref rk_) (C := RX2) (T := TX2) (N := 6) hx hb hts in_X2 hown hK hP 0 rfl rfl 1 (by decide) f_9 (fun _ h9 => h9) rfl dX2_setKind_1 ?_
  refine lv_iload_n hx hb dX2_setKind_4 rfl (lv_at hl 1 rfl) ?_
  refine lv_iload_n hx hb dX2_setKind_5 rfl (lv_at hl 2 rfl) ?_
  refine va_iast hx hb hK hP hD hS 1 0 rfl rfl (by first | exact vp_in_nI (by omega) (by omega) | assumption) dX2_setKind_6 (fun H locs hP hD hS => ?_)
  rw [nI_clamp (by omega)] at hP hD
  have hP : va_P D vwCl ((t_, .inr (3, [.int (nI K), .ref rk_, .ref ro_, .ref rc_, .ref al_, .int (nI n)])) :: (rk_, .inl (cI, 40, .inl (upd (nf kn) i (nI x)))) :: (ro_, .inl (cG, 40, .inr (.inr (.inr (.inr (og ar)))))) :: (rc_, .inl (cG, 40, .inr (.inr (.inr (.inr (og ac)))))) :: (al_, .inl (cI, 7, .inl (nf al))) :: (pr cI ar M ++ (pq cI ac C ++ R))) H := hP
  have hD : va_D A ((t_, .inr (3, [.int (nI K), .ref rk_, .ref ro_, .ref rc_, .ref al_, .int (nI n)])) :: (rk_, .inl (cI, 40, .inl (upd (nf kn) i (nI x)))) :: (ro_, .inl (cG, 40, .inr (.inr (.inr (.inr (og ar)))))) :: (rc_, .inl (cG, 40, .inr (.inr (.inr (.inr (og ac)))))) :: (al_, .inl (cI, 7, .inl (nf al))) :: (pr cI ar M ++ (pq cI ac C ++ R))) := hD
  have hW_ : upd (nf kn) i (nI x) = nf (un kn i x) := by exact nf_upd _ _ _
  rw [hW_] at hP hD
  have hP : va_P D vwCl ((t_, .inr (3, [.int (nI K), .ref rk_, .ref ro_, .ref rc_, .ref al_, .int (nI n)])) :: (rk_, .inl (cI, 40, .inl (nf (un kn i x)))) :: (ro_, .inl (cG, 40, .inr (.inr (.inr (.inr (og ar)))))) :: (rc_, .inl (cG, 40, .inr (.inr (.inr (.inr (og ac)))))) :: (al_, .inl (cI, 7, .inl (nf al))) :: (pr cI ar M ++ (pq cI ac C ++ R))) H := hP
  have hD : va_D A ((t_, .inr (3, [.int (nI K), .ref rk_, .ref ro_, .ref rc_, .ref al_, .int (nI n)])) :: (rk_, .inl (cI, 40, .inl (nf (un kn i x)))) :: (ro_, .inl (cG, 40, .inr (.inr (.inr (.inr (og ar)))))) :: (rc_, .inl (cG, 40, .inr (.inr (.inr (.inr (og ac)))))) :: (al_, .inl (cI, 7, .inl (nf al))) :: (pr cI ar M ++ (pq cI ac C ++ R))) := hD
  subst hQe
  subst hAe
  subst hsz
  exact g_vret hx hb hr hlocks () trivial hP hK hD hS dX2_setKind_7
abbrev rX2_put : Room := { frames := 1, cells := 0, slots := 0, locals := 60 }
set_option maxHeartbeats 4000000 in
set_option maxRecDepth 100000 in
theorem c_X2_put (l : Launch) (D : va_G) (cI cJ cG : ClassId) (sz : Nat) (R : va_W) (t_ rk_ ro_ rc_ al_ : Nat) (ar ac : Nat → Nat) (K n : Nat) (kn : Nat → Nat) (M C : Nat → Nat → Nat) (al : Nat → Nat) (fr_ nF : Nat) (F : Nat → Nat) (t kd first : Nat) (ht : t < 40) (hfi : first + 8 ≤ nF) (hnF : nF < 2 ^ 31) (hM : ∀ k, M t k ≤ 255) (hF : ∀ k, F k ≤ 255) : Met l yX2_put wsX2_put rX2_put (gP D (tyl cI cJ cG) [.ref t_, .int (nI t), .int (nI kd), .ref fr_, .int (nI first)] ((t_, .inr (3, [.int (nI K), .ref rk_, .ref ro_, .ref rc_, .ref al_, .int (nI n)])) :: (rk_, .inl (cI, 40, .inl (nf kn))) :: (ro_, .inl (cG, 40, .inr (.inr (.inr (.inr (og ar)))))) :: (rc_, .inl (cG, 40, .inr (.inr (.inr (.inr (og ac)))))) :: (al_, .inl (cI, 7, .inl (nf al))) :: (fr_, .inl (cI, nF, .inl (nf F))) :: (pr cI ar M ++ (pq cI ac C ++ R))) sz) (gQv D (tyl cI cJ cG) ((t_, .inr (3, [.int (nI K), .ref rk_, .ref ro_, .ref rc_, .ref al_, .int (nI n)])) :: (rk_, .inl (cI, 40, .inl (nf kn))) :: (ro_, .inl (cG, 40, .inr (.inr (.inr (.inr (og ar)))))) :: (rc_, .inl (cG, 40, .inr (.inr (.inr (.inr (og ac)))))) :: (al_, .inl (cI, 7, .inl (nf al))) :: (fr_, .inl (cI, nF, .inl (nf F))) :: (pr cI ar M ++ (pq cI ac C ++ R))) sz (fun (_ : Unit) => True) (fun _ => ((t_, .inr (3, [.int (nI K), .ref rk_, .ref ro_, .ref rc_, .ref al_, .int (nI n)])) :: (rk_, .inl (cI, 40, .inl (nf (un kn t kd)))) :: (ro_, .inl (cG, 40, .inr (.inr (.inr (.inr (og ar)))))) :: (rc_, .inl (cG, 40, .inr (.inr (.inr (.inr (og ac)))))) :: (al_, .inl (cI, 7, .inl (nf al))) :: (fr_, .inl (cI, nF, .inl (nf F))) :: (pr cI ar (un M t (fu (fun k => F (first + k)) (M t) 8)) ++ (pq cI ac (un C t (fu (ceN (fu (fun k => F (first + k)) (M t) 8)) (C t) 7)) ++ R))))) 0 0 (va_A ((t_, .inr (3, [.int (nI K), .ref rk_, .ref ro_, .ref rc_, .ref al_, .int (nI n)])) :: (rk_, .inl (cI, 40, .inl (nf kn))) :: (ro_, .inl (cG, 40, .inr (.inr (.inr (.inr (og ar)))))) :: (rc_, .inl (cG, 40, .inr (.inr (.inr (.inr (og ac)))))) :: (al_, .inl (cI, 7, .inl (nf al))) :: (fr_, .inl (cI, nF, .inl (nf F))) :: (pr cI ar M ++ (pq cI ac C ++ R))) sz) := by
  refine gMet (cc := cX2_put) (maxL := 5) (ret := none) (ls0 := [(0, .ref t_), (1, .int (nI t)), (2, .int (nI kd)), (3, .ref fr_), (4, .int (nI first))]) (by decide) rfl (Nat.le_of_ble_eq_true rfl) rfl ?_
  intro p e s m below meth c hx hb hr hts hown hlocks hml hname A hA hAe hsz Q hQe H locs hP hK hD hS ls hl
  have hown : s.vm.findClass RX2 = some m.cls := hown
  have in_X2 : ∀ w ∈ wsX20, w ∈ wsX2_put := by decide +kernel
  have f_9 := hts (.fieldLink RX2 9 "SpectrumHeads$Table" "rowKinds" "[I") (by decide +kernel)
  have f_17 := hts (.fieldLink RX2 17 "SpectrumHeads$Table" "rows" "[[I") (by decide +kernel)
  have f_20 := hts (.fieldLink RX2 20 "SpectrumHeads$Table" "rowCells" "[[I") (by decide +kernel)
  refine lv_aload_n hx hb dX2_put_0 rfl (lv_at hl 0 rfl) ?_
  refine va_get (D := D) (ci := 3) (v := .ref rk_) (C := RX2) (T := TX2) (N := 6) hx hb hts in_X2 hown hK hP 0 rfl rfl 1 (by decide) f_9 (fun _ h9 => h9) rfl dX2_put_1 ?_
  refine lv_iload_n hx hb dX2_put_4 rfl (lv_at hl 1 rfl) ?_
  refine lv_iload_n hx hb dX2_put_5 rfl (lv_at hl 2 rfl) ?_
  refine va_iast hx hb hK hP hD hS 1 0 rfl rfl (by first | exact vp_in_nI (by omega) (by omega) | assumption) dX2_put_6 (fun H locs hP hD hS => ?_)
  rw [nI_clamp (by omega)] at hP hD
  have hP : va_P D vwCl ((t_, .inr (3, [.int (nI K), .ref rk_, .ref ro_, .ref rc_, .ref al_, .int (nI n)])) :: (rk_, .inl (cI, 40, .inl (upd (nf kn) t (nI kd)))) :: (ro_, .inl (cG, 40, .inr (.inr (.inr (.inr (og ar)))))) :: (rc_, .inl (cG, 40, .inr (.inr (.inr (.inr (og ac)))))) :: (al_, .inl (cI, 7, .inl (nf al))) :: (fr_, .inl (cI, nF, .inl (nf F))) :: (pr cI ar M ++ (pq cI ac C ++ R))) H := hP
  have hD : va_D A ((t_, .inr (3, [.int (nI K), .ref rk_, .ref ro_, .ref rc_, .ref al_, .int (nI n)])) :: (rk_, .inl (cI, 40, .inl (upd (nf kn) t (nI kd)))) :: (ro_, .inl (cG, 40, .inr (.inr (.inr (.inr (og ar)))))) :: (rc_, .inl (cG, 40, .inr (.inr (.inr (.inr (og ac)))))) :: (al_, .inl (cI, 7, .inl (nf al))) :: (fr_, .inl (cI, nF, .inl (nf F))) :: (pr cI ar M ++ (pq cI ac C ++ R))) := hD
  have hW_ : upd (nf kn) t (nI kd) = nf (un kn t kd) := by exact nf_upd _ _ _
  rw [hW_] at hP hD
  have hP : va_P D vwCl ((t_, .inr (3, [.int (nI K), .ref rk_, .ref ro_, .ref rc_, .ref al_, .int (nI n)])) :: (rk_, .inl (cI, 40, .inl (nf (un kn t kd)))) :: (ro_, .inl (cG, 40, .inr (.inr (.inr (.inr (og ar)))))) :: (rc_, .inl (cG, 40, .inr (.inr (.inr (.inr (og ac)))))) :: (al_, .inl (cI, 7, .inl (nf al))) :: (fr_, .inl (cI, nF, .inl (nf F))) :: (pr cI ar M ++ (pq cI ac C ++ R))) H := hP
  have hD : va_D A ((t_, .inr (3, [.int (nI K), .ref rk_, .ref ro_, .ref rc_, .ref al_, .int (nI n)])) :: (rk_, .inl (cI, 40, .inl (nf (un kn t kd)))) :: (ro_, .inl (cG, 40, .inr (.inr (.inr (.inr (og ar)))))) :: (rc_, .inl (cG, 40, .inr (.inr (.inr (.inr (og ac)))))) :: (al_, .inl (cI, 7, .inl (nf al))) :: (fr_, .inl (cI, nF, .inl (nf F))) :: (pr cI ar M ++ (pq cI ac C ++ R))) := hD
  refine lv_aload_n hx hb dX2_put_7 rfl (lv_at hl 3 rfl) ?_
  refine lv_iload hx hb dX2_put_8 (lv_at hl 4 rfl) ?_
  refine lv_aload_n hx hb dX2_put_10 rfl (lv_at hl 0 rfl) ?_
  refine va_get (D := D) (ci := 3) (v := .ref ro_) (C := RX2) (T := TX2) (N := 6) hx hb hts in_X2 hown hK hP 0 rfl rfl 2 (by decide) f_17 (fun _ h9 => h9) rfl dX2_put_11 ?_
  refine lv_iload_n hx hb dX2_put_14 rfl (lv_at hl 1 rfl) ?_
  refine g_aald (v := (ar t)) hx hb hK hP 2 2 rfl rfl (by first | exact vp_in_nI (by omega) (by omega) | assumption) (og_nI ht) dX2_put_15 ?_
  refine lv_iconst (v := 0) hx hb dX2_put_16 (by decide) ?_
  refine lv_bipush (v := 8) hx hb dX2_put_17 (by decide) ?_
  refine va_copyi (a := ar t) (a0 := fr_) (c0 := cI) (c1 := cI) (n0 := nF) (n1 := 8) (f := nf F) (g := nf (M t)) (ty := .int) hx hb (by rw [hml]; exact hl.1.symm) hown (hts (.methodLink RX2 37 arraycopyName) (by decide +kernel)) (hts (.native arraycopyName) (by decide +kernel)) (hts (.static arraycopyName) (by decide +kernel)) (hts (.initialized "java/lang/System") (by decide +kernel)) hK hP hD hS 5 (t + 6) 0 0 rfl (pr_get ht) rfl rfl rfl (sp := nI first) (dp := 0) (n := 8) (nI_pos (by omega)) (by decide) (by decide) (by rw [nI_clamp (by omega)]; exact hfi) (by decide) (fun _ _ => rfl) (Nat.le_of_ble_eq_true rfl) (Nat.le_of_ble_eq_true rfl) dX2_put_19 (fun H locs hP hD hS => ?_)
  rw [show va_cpy (nf F) (nf (M t)) (nI first).toNatClampNeg (0 : Int32).toNatClampNeg (8 : Int32).toNatClampNeg = nf (fu (fun k => F (first + k)) (M t) 8) from cpy_row (by omega)] at hP hD
  have hP : va_P D vwCl ((t_, .inr (3, [.int (nI K), .ref rk_, .ref ro_, .ref rc_, .ref al_, .int (nI n)])) :: (rk_, .inl (cI, 40, .inl (nf (un kn t kd)))) :: (ro_, .inl (cG, 40, .inr (.inr (.inr (.inr (og ar)))))) :: (rc_, .inl (cG, 40, .inr (.inr (.inr (.inr (og ac)))))) :: (al_, .inl (cI, 7, .inl (nf al))) :: (fr_, .inl (cI, nF, .inl (nf F))) :: (pr cI ar M ++ (pq cI ac C ++ R)).set t (ar t, .inl (cI, 8, .inl (nf (fu (fun k => F (first + k)) (M t) 8))))) H := hP
  have hD : va_D A ((t_, .inr (3, [.int (nI K), .ref rk_, .ref ro_, .ref rc_, .ref al_, .int (nI n)])) :: (rk_, .inl (cI, 40, .inl (nf (un kn t kd)))) :: (ro_, .inl (cG, 40, .inr (.inr (.inr (.inr (og ar)))))) :: (rc_, .inl (cG, 40, .inr (.inr (.inr (.inr (og ac)))))) :: (al_, .inl (cI, 7, .inl (nf al))) :: (fr_, .inl (cI, nF, .inl (nf F))) :: (pr cI ar M ++ (pq cI ac C ++ R)).set t (ar t, .inl (cI, 8, .inl (nf (fu (fun k => F (first + k)) (M t) 8))))) := hD
  rw [pr_set ht] at hP hD
  have hP : va_P D vwCl ((t_, .inr (3, [.int (nI K), .ref rk_, .ref ro_, .ref rc_, .ref al_, .int (nI n)])) :: (rk_, .inl (cI, 40, .inl (nf (un kn t kd)))) :: (ro_, .inl (cG, 40, .inr (.inr (.inr (.inr (og ar)))))) :: (rc_, .inl (cG, 40, .inr (.inr (.inr (.inr (og ac)))))) :: (al_, .inl (cI, 7, .inl (nf al))) :: (fr_, .inl (cI, nF, .inl (nf F))) :: (pr cI ar (un M t (fu (fun k => F (first + k)) (M t) 8)) ++ (pq cI ac C ++ R))) H := hP
  have hD : va_D A ((t_, .inr (3, [.int (nI K), .ref rk_, .ref ro_, .ref rc_, .ref al_, .int (nI n)])) :: (rk_, .inl (cI, 40, .inl (nf (un kn t kd)))) :: (ro_, .inl (cG, 40, .inr (.inr (.inr (.inr (og ar)))))) :: (rc_, .inl (cG, 40, .inr (.inr (.inr (.inr (og ac)))))) :: (al_, .inl (cI, 7, .inl (nf al))) :: (fr_, .inl (cI, nF, .inl (nf F))) :: (pr cI ar (un M t (fu (fun k => F (first + k)) (M t) 8)) ++ (pq cI ac C ++ R))) := hD
  refine lv_aload_n hx hb dX2_put_22 rfl (lv_at hl 0 rfl) ?_
  refine va_get (D := D) (ci := 3) (v := .ref ro_) (C := RX2) (T := TX2) (N := 6) hx hb hts in_X2 hown hK hP 0 rfl rfl 2 (by decide) f_17 (fun _ h9 => h9) rfl dX2_put_23 ?_
  refine lv_iload_n hx hb dX2_put_26 rfl (lv_at hl 1 rfl) ?_
  refine g_aald (v := (ar t)) hx hb hK hP 2 2 rfl rfl (by first | exact vp_in_nI (by omega) (by omega) | assumption) (og_nI ht) dX2_put_27 ?_
  refine lv_aload_n hx hb dX2_put_28 rfl (lv_at hl 0 rfl) ?_
  refine va_get (D := D) (ci := 3) (v := .ref rc_) (C := RX2) (T := TX2) (N := 6) hx hb hts in_X2 hown hK hP 0 rfl rfl 3 (by decide) f_20 (fun _ h9 => h9) rfl dX2_put_29 ?_
  refine lv_iload_n hx hb dX2_put_32 rfl (lv_at hl 1 rfl) ?_
  refine g_aald (v := (ac t)) hx hb hK hP 3 2 rfl rfl (by first | exact vp_in_nI (by omega) (by omega) | assumption) (og_nI ht) dX2_put_33 ?_
  refine gc_Sv (As := [.ref (ar t), .ref (ac t)]) (rest := []) ⟨hx, hb, hml, hown, hts⟩ (c_X2_fillCells l D cI cJ cG H.size ((t_, .inr (3, [.int (nI K), .ref rk_, .ref ro_, .ref rc_, .ref al_, .int (nI n)])) :: (rk_, .inl (cI, 40, .inl (nf (un kn t kd)))) :: (ro_, .inl (cG, 40, .inr (.inr (.inr (.inr (og ar)))))) :: (rc_, .inl (cG, 40, .inr (.inr (.inr (.inr (og ac)))))) :: (al_, .inl (cI, 7, .inl (nf al))) :: (fr_, .inl (cI, nF, .inl (nf F))) :: (pr cI ar (un M t (fu (fun k => F (first + k)) (M t) 8)) ++ (pq cI ac C ++ R))) (ar t) (ac t) (t + 6) (t + 46) (fu (fun k => F (first + k)) (M t) 8) (C t) ((pr_get ht).trans (by rw [un_s])) (pq_get ht) (by omega) (fu_le hF hM)) (va_cwS 2 hts gX2_put_X2_fillCells rfl rfl rfl (by decide +kernel) ⟨Nat.le_of_ble_eq_true rfl, Nat.le_of_ble_eq_true rfl⟩) hK hP hD hS hA rfl hl.1 rfl (Nat.le_of_ble_eq_true rfl) dX2_put_34 ⟨Nat.le_of_ble_eq_true rfl, Nat.le_of_ble_eq_true rfl⟩ (fun u34 H locs h34 hP hD hS => ?_)
  have hP : va_P D vwCl ((t_, .inr (3, [.int (nI K), .ref rk_, .ref ro_, .ref rc_, .ref al_, .int (nI n)])) :: (rk_, .inl (cI, 40, .inl (nf (un kn t kd)))) :: (ro_, .inl (cG, 40, .inr (.inr (.inr (.inr (og ar)))))) :: (rc_, .inl (cG, 40, .inr (.inr (.inr (.inr (og ac)))))) :: (al_, .inl (cI, 7, .inl (nf al))) :: (fr_, .inl (cI, nF, .inl (nf F))) :: (pr cI ar (un M t (fu (fun k => F (first + k)) (M t) 8)) ++ (pq cI ac C ++ R)).set (t + 40) (ac t, .inl (cI, 7, .inl (nf (fu (ceN (fu (fun k => F (first + k)) (M t) 8)) (C t) 7))))) H := hP
  have hD : va_D A ((t_, .inr (3, [.int (nI K), .ref rk_, .ref ro_, .ref rc_, .ref al_, .int (nI n)])) :: (rk_, .inl (cI, 40, .inl (nf (un kn t kd)))) :: (ro_, .inl (cG, 40, .inr (.inr (.inr (.inr (og ar)))))) :: (rc_, .inl (cG, 40, .inr (.inr (.inr (.inr (og ac)))))) :: (al_, .inl (cI, 7, .inl (nf al))) :: (fr_, .inl (cI, nF, .inl (nf F))) :: (pr cI ar (un M t (fu (fun k => F (first + k)) (M t) 8)) ++ (pq cI ac C ++ R)).set (t + 40) (ac t, .inl (cI, 7, .inl (nf (fu (ceN (fu (fun k => F (first + k)) (M t) 8)) (C t) 7))))) := hD
  rw [pq_set ht] at hP hD
  have hP : va_P D vwCl ((t_, .inr (3, [.int (nI K), .ref rk_, .ref ro_, .ref rc_, .ref al_, .int (nI n)])) :: (rk_, .inl (cI, 40, .inl (nf (un kn t kd)))) :: (ro_, .inl (cG, 40, .inr (.inr (.inr (.inr (og ar)))))) :: (rc_, .inl (cG, 40, .inr (.inr (.inr (.inr (og ac)))))) :: (al_, .inl (cI, 7, .inl (nf al))) :: (fr_, .inl (cI, nF, .inl (nf F))) :: (pr cI ar (un M t (fu (fun k => F (first + k)) (M t) 8)) ++ (pq cI ac (un C t (fu (ceN (fu (fun k => F (first + k)) (M t) 8)) (C t) 7)) ++ R))) H := hP
  have hD : va_D A ((t_, .inr (3, [.int (nI K), .ref rk_, .ref ro_, .ref rc_, .ref al_, .int (nI n)])) :: (rk_, .inl (cI, 40, .inl (nf (un kn t kd)))) :: (ro_, .inl (cG, 40, .inr (.inr (.inr (.inr (og ar)))))) :: (rc_, .inl (cG, 40, .inr (.inr (.inr (.inr (og ac)))))) :: (al_, .inl (cI, 7, .inl (nf al))) :: (fr_, .inl (cI, nF, .inl (nf F))) :: (pr cI ar (un M t (fu (fun k => F (first + k)) (M t) 8)) ++ (pq cI ac (un C t (fu (ceN (fu (fun k => F (first + k)) (M t) 8)) (C t) 7)) ++ R))) := hD
  subst hQe
  subst hAe
  subst hsz
  exact g_vret hx hb hr hlocks () trivial hP hK hD hS dX2_put_37
abbrev rX2_add : Room := { frames := 2, cells := 0, slots := 0, locals := 84 }
set_option maxHeartbeats 4000000 in
set_option maxRecDepth 100000 in
theorem c_X2_add (l : Launch) (D : va_G) (cI cJ cG : ClassId) (sz : Nat) (R : va_W) (t_ rk_ ro_ rc_ al_ : Nat) (ar ac : Nat → Nat) (K n : Nat) (kn : Nat → Nat) (M C : Nat → Nat → Nat) (al : Nat → Nat) (fr_ : Nat) (F : Nat → Nat) (kd : Nat) (hn : n ≤ 40) (hM : ∀ i k, M i k ≤ 255) (hF : ∀ k, F k ≤ 255) : Met l yX2_add wsX2_add rX2_add (gP D (tyl cI cJ cG) [.ref t_, .int (nI kd), .ref fr_] ((t_, .inr (3, [.int (nI K), .ref rk_, .ref ro_, .ref rc_, .ref al_, .int (nI n)])) :: (rk_, .inl (cI, 40, .inl (nf kn))) :: (ro_, .inl (cG, 40, .inr (.inr (.inr (.inr (og ar)))))) :: (rc_, .inl (cG, 40, .inr (.inr (.inr (.inr (og ac)))))) :: (al_, .inl (cI, 7, .inl (nf al))) :: (fr_, .inl (cI, 8, .inl (nf F))) :: (pr cI ar M ++ (pq cI ac C ++ R))) sz) (gQi D (tyl cI cJ cG) ((t_, .inr (3, [.int (nI K), .ref rk_, .ref ro_, .ref rc_, .ref al_, .int (nI n)])) :: (rk_, .inl (cI, 40, .inl (nf kn))) :: (ro_, .inl (cG, 40, .inr (.inr (.inr (.inr (og ar)))))) :: (rc_, .inl (cG, 40, .inr (.inr (.inr (.inr (og ac)))))) :: (al_, .inl (cI, 7, .inl (nf al))) :: (fr_, .inl (cI, 8, .inl (nf F))) :: (pr cI ar M ++ (pq cI ac C ++ R))) sz (fun r (u : Nat × (Nat → Nat) × (Nat → Nat → Nat) × (Nat → Nat → Nat)) => (n = 40 ∧ r = -1 ∧ u = (n, kn, M, C)) ∨ (n < 40 ∧ r = nI n ∧ u = (n + 1, un kn n kd, un M n (fu (fun k => F (0 + k)) (M n) 8), un C n (fu (ceN (fu (fun k => F (0 + k)) (M n) 8)) (C n) 7)))) (fun u => ((t_, .inr (3, [.int (nI K), .ref rk_, .ref ro_, .ref rc_, .ref al_, .int (nI u.1)])) :: (rk_, .inl (cI, 40, .inl (nf u.2.1))) :: (ro_, .inl (cG, 40, .inr (.inr (.inr (.inr (og ar)))))) :: (rc_, .inl (cG, 40, .inr (.inr (.inr (.inr (og ac)))))) :: (al_, .inl (cI, 7, .inl (nf al))) :: (fr_, .inl (cI, 8, .inl (nf F))) :: (pr cI ar u.2.2.1 ++ (pq cI ac u.2.2.2 ++ R))))) 0 0 (va_A ((t_, .inr (3, [.int (nI K), .ref rk_, .ref ro_, .ref rc_, .ref al_, .int (nI n)])) :: (rk_, .inl (cI, 40, .inl (nf kn))) :: (ro_, .inl (cG, 40, .inr (.inr (.inr (.inr (og ar)))))) :: (rc_, .inl (cG, 40, .inr (.inr (.inr (.inr (og ac)))))) :: (al_, .inl (cI, 7, .inl (nf al))) :: (fr_, .inl (cI, 8, .inl (nf F))) :: (pr cI ar M ++ (pq cI ac C ++ R))) sz) := by
  refine gMet (cc := cX2_add) (maxL := 4) (ret := (some .int)) (ls0 := [(0, .ref t_), (1, .int (nI kd)), (2, .ref fr_)]) (by decide) rfl (Nat.le_of_ble_eq_true rfl) rfl ?_
  intro p e s m below meth c hx hb hr hts hown hlocks hml hname A hA hAe hsz Q hQe H locs hP hK hD hS ls hl
  have hown : s.vm.findClass RX2 = some m.cls := hown
  have in_X2 : ∀ w ∈ wsX20, w ∈ wsX2_add := by decide +kernel
  have f_30 := hts (.fieldLink RX2 30 "SpectrumHeads$Table" "count" "I") (by decide +kernel)
  refine lv_aload_n hx hb dX2_add_0 rfl (lv_at hl 0 rfl) ?_
  refine va_get (D := D) (ci := 3) (v := .int (nI n)) (C := RX2) (T := TX2) (N := 6) hx hb hts in_X2 hown hK hP 0 rfl rfl 5 (by decide) f_30 (fun _ h9 => h9) rfl dX2_add_1 ?_
  refine lv_bipush (v := 40) hx hb dX2_add_4 (by decide) ?_
  refine lv_icmp_lt (tgt := 11) hx hb dX2_add_6 (by decide) (fun c6 => ?_) (fun c6 => ?_)
  · skip
    have hn4 : n < 40 := (nI_ltI (b := 40) (by omega) (by omega)).mp c6
    refine lv_aload_n hx hb dX2_add_11 rfl (lv_at hl 0 rfl) ?_
    refine va_get (D := D) (ci := 3) (v := .int (nI n)) (C := RX2) (T := TX2) (N := 6) hx hb hts in_X2 hown hK hP 0 rfl rfl 5 (by decide) f_30 (fun _ h9 => h9) rfl dX2_add_12 ?_
    refine lv_istore_n (lv' := [(3, .int (nI n)), (0, .ref t_), (1, .int (nI kd)), (2, .ref fr_)]) hx hb dX2_add_15 rfl hl (by decide) rfl (fun ls hl => ?_)
    refine lv_aload_n hx hb dX2_add_16 rfl (lv_at hl 1 rfl) ?_
    refine lv_iload_n hx hb dX2_add_17 rfl (lv_at hl 0 rfl) ?_
    refine lv_iload_n hx hb dX2_add_18 rfl (lv_at hl 2 rfl) ?_
    refine lv_aload_n hx hb dX2_add_19 rfl (lv_at hl 3 rfl) ?_
    refine lv_iconst (v := 0) hx hb dX2_add_20 (by decide) ?_
    refine gc_Vv (As := [.int (nI n), .int (nI kd), .ref fr_, .int 0]) (rest := []) (ci := 3) (q0 := 0) ⟨hx, hb, hml, hown, hts⟩ (c_X2_put l D cI cJ cG H.size R t_ rk_ ro_ rc_ al_ ar ac K n kn M C al fr_ 8 F n kd 0 hn4 (by omega) (by omega) (hM n) hF) (cwV 4 hts gX2_add_X2_put rfl rfl rfl (by decide +kernel) ⟨Nat.le_of_ble_eq_true rfl, Nat.le_of_ble_eq_true rfl⟩) rfl rfl rfl hK hP hD hS hA rfl hl.1 rfl (Nat.le_of_ble_eq_true rfl) dX2_add_21 ⟨Nat.le_of_ble_eq_true rfl, Nat.le_of_ble_eq_true rfl⟩ (fun u21 H locs h21 hP hD hS => ?_)
    have hP : va_P D vwCl ((t_, .inr (3, [.int (nI K), .ref rk_, .ref ro_, .ref rc_, .ref al_, .int (nI n)])) :: (rk_, .inl (cI, 40, .inl (nf (un kn n kd)))) :: (ro_, .inl (cG, 40, .inr (.inr (.inr (.inr (og ar)))))) :: (rc_, .inl (cG, 40, .inr (.inr (.inr (.inr (og ac)))))) :: (al_, .inl (cI, 7, .inl (nf al))) :: (fr_, .inl (cI, 8, .inl (nf F))) :: (pr cI ar (un M n (fu (fun k => F (0 + k)) (M n) 8)) ++ (pq cI ac (un C n (fu (ceN (fu (fun k => F (0 + k)) (M n) 8)) (C n) 7)) ++ R))) H := hP
    have hD : va_D A ((t_, .inr (3, [.int (nI K), .ref rk_, .ref ro_, .ref rc_, .ref al_, .int (nI n)])) :: (rk_, .inl (cI, 40, .inl (nf (un kn n kd)))) :: (ro_, .inl (cG, 40, .inr (.inr (.inr (.inr (og ar)))))) :: (rc_, .inl (cG, 40, .inr (.inr (.inr (.inr (og ac)))))) :: (al_, .inl (cI, 7, .inl (nf al))) :: (fr_, .inl (cI, 8, .inl (nf F))) :: (pr cI ar (un M n (fu (fun k => F (0 + k)) (M n) 8)) ++ (pq cI ac (un C n (fu (ceN (fu (fun k => F (0 + k)) (M n) 8)) (C n) 7)) ++ R))) := hD
    refine lv_aload_n hx hb dX2_add_24 rfl (lv_at hl 1 rfl) ?_
    refine lv_dup hx hb dX2_add_25 rfl ?_
    refine va_get (D := D) (ci := 3) (v := .int (nI n)) (C := RX2) (T := TX2) (N := 6) hx hb hts in_X2 hown hK hP 0 rfl rfl 5 (by decide) f_30 (fun _ h9 => h9) rfl dX2_add_26 ?_
    refine lv_iconst (v := 1) hx hb dX2_add_29 (by decide) ?_
    refine lv_iadd hx hb dX2_add_30 ?_
    refine lv_topi (fun x30 ex30 => ?_)
    obtain rfl : x30 = nI (n + 1) := by rw [ex30]; exact nI_1 _
    refine va_put (D := D) (ci := 3) (v := .int (nI (n + 1))) (ty := .int) (C := RX2) (T := TX2) (N := 6) hx hb hts in_X2 tyX2 tyX2_ok nmX2 hown hK hP hD hS 0 rfl rfl 5 (by decide) f_30 (fun _ h9 => h9) rfl (by decide +kernel) rfl rfl (Nat.le_of_ble_eq_true rfl) dX2_add_31 (fun H locs hP hD hS => ?_)
    have hP : va_P D vwCl ((t_, .inr (3, [.int (nI K), .ref rk_, .ref ro_, .ref rc_, .ref al_, .int (nI (n + 1))])) :: (rk_, .inl (cI, 40, .inl (nf (un kn n kd)))) :: (ro_, .inl (cG, 40, .inr (.inr (.inr (.inr (og ar)))))) :: (rc_, .inl (cG, 40, .inr (.inr (.inr (.inr (og ac)))))) :: (al_, .inl (cI, 7, .inl (nf al))) :: (fr_, .inl (cI, 8, .inl (nf F))) :: (pr cI ar (un M n (fu (fun k => F (0 + k)) (M n) 8)) ++ (pq cI ac (un C n (fu (ceN (fu (fun k => F (0 + k)) (M n) 8)) (C n) 7)) ++ R))) H := hP
    have hD : va_D A ((t_, .inr (3, [.int (nI K), .ref rk_, .ref ro_, .ref rc_, .ref al_, .int (nI (n + 1))])) :: (rk_, .inl (cI, 40, .inl (nf (un kn n kd)))) :: (ro_, .inl (cG, 40, .inr (.inr (.inr (.inr (og ar)))))) :: (rc_, .inl (cG, 40, .inr (.inr (.inr (.inr (og ac)))))) :: (al_, .inl (cI, 7, .inl (nf al))) :: (fr_, .inl (cI, 8, .inl (nf F))) :: (pr cI ar (un M n (fu (fun k => F (0 + k)) (M n) 8)) ++ (pq cI ac (un C n (fu (ceN (fu (fun k => F (0 + k)) (M n) 8)) (C n) 7)) ++ R))) := hD
    refine lv_iload_n hx hb dX2_add_34 rfl (lv_at hl 0 rfl) ?_
    subst hQe
    subst hAe
    subst hsz
    exact g_iret hx hb hr hlocks (n + 1, un kn n kd, un M n (fu (fun k => F (0 + k)) (M n) 8), un C n (fu (ceN (fu (fun k => F (0 + k)) (M n) 8)) (C n) 7)) (Or.inr ⟨hn4, rfl, rfl⟩) hP hK hD hS dX2_add_35
  · skip
    have hn4 : n = 40 := by have := mt (nI_ltI (a := n) (b := 40) (by omega) (by omega)).mpr c6; omega
    refine lv_iconst (v := -1) hx hb dX2_add_9 (by decide) ?_
    subst hQe
    subst hAe
    subst hsz
    exact g_iret hx hb hr hlocks (n, kn, M, C) (Or.inl ⟨hn4, rfl, rfl⟩) hP hK hD hS dX2_add_10
abbrev rX2_countAlike : Room := { frames := 0, cells := 0, slots := 0, locals := 0 }
set_option maxHeartbeats 4000000 in
set_option maxRecDepth 100000 in
theorem c_X2_countAlike (l : Launch) (D : va_G) (cI cJ cG : ClassId) (sz : Nat) (T : va_W) (t_ rk_ ro_ rc_ al_ K n : Nat) (al fa fb : Nat → Nat) (a_ b_ qa qb : Nat) (hqa : T[qa]? = some (a_, .inl (cI, 7, .inl (nf fa)))) (hqb : T[qb]? = some (b_, .inl (cI, 7, .inl (nf fb)))) (hfa : ∀ k, fa k < 8) (hfb : ∀ k, fb k < 8) : Met l yX2_countAlike wsX2_countAlike rX2_countAlike (gP D (tyl cI cJ cG) [.ref t_, .ref a_, .ref b_] ((t_, .inr (3, [.int (nI K), .ref rk_, .ref ro_, .ref rc_, .ref al_, .int (nI n)])) :: (al_, .inl (cI, 7, .inl (nf al))) :: T) sz) (gQv D (tyl cI cJ cG) ((t_, .inr (3, [.int (nI K), .ref rk_, .ref ro_, .ref rc_, .ref al_, .int (nI n)])) :: (al_, .inl (cI, 7, .inl (nf al))) :: T) sz (fun (_ : Unit) => True) (fun _ => ((t_, .inr (3, [.int (nI K), .ref rk_, .ref ro_, .ref rc_, .ref al_, .int (nI n)])) :: (al_, .inl (cI, 7, .inl (nf (fu (fun k => al k + (if fa k = fb k then 1 else 0)) al 7)))) :: T))) 0 0 (va_A ((t_, .inr (3, [.int (nI K), .ref rk_, .ref ro_, .ref rc_, .ref al_, .int (nI n)])) :: (al_, .inl (cI, 7, .inl (nf al))) :: T) sz) := by
  refine gMet (cc := cX2_countAlike) (maxL := 4) (ret := none) (ls0 := [(0, .ref t_), (1, .ref a_), (2, .ref b_)]) (by decide) rfl (Nat.le_of_ble_eq_true rfl) rfl ?_
  intro p e s m below meth c hx hb hr hts hown hlocks hml hname A hA hAe hsz Q hQe H locs hP hK hD hS ls hl
  have hown : s.vm.findClass RX2 = some m.cls := hown
  have in_X2 : ∀ w ∈ wsX20, w ∈ wsX2_countAlike := by decide +kernel
  have f_23 := hts (.fieldLink RX2 23 "SpectrumHeads$Table" "alike" "[I") (by decide +kernel)
  rw [← fu_0 (g := (fun k => al k + (if fa k = fb k then 1 else 0))) (f := al)] at hP hD
  refine lv_iconst (v := 0) hx hb dX2_countAlike_0 (by decide) ?_
  refine lv_istore_n (lv' := [(3, .int 0), (0, .ref t_), (1, .ref a_), (2, .ref b_)]) hx hb dX2_countAlike_1 rfl hl (by decide) rfl (fun ls hl => ?_)
  have L_2 : ∀ (n_2 : Nat) (i : Nat) (hi : i ≤ 7), 7 - i < n_2 → ∀ (H : Heap) (locs : List Loc) (ls : Array Slot), va_P D vwCl ((t_, .inr (3, [.int (nI K), .ref rk_, .ref ro_, .ref rc_, .ref al_, .int (nI n)])) :: (al_, .inl (cI, 7, .inl (nf (fu (fun k => al k + (if fa k = fb k then 1 else 0)) al i)))) :: T) H → va_D A ((t_, .inr (3, [.int (nI K), .ref rk_, .ref ro_, .ref rc_, .ref al_, .int (nI n)])) :: (al_, .inl (cI, 7, .inl (nf (fu (fun k => al k + (if fa k = fb k then 1 else 0)) al i)))) :: T) → va_S A s.heap H locs → lv_has ls 4 [(3, .int (nI i)), (0, .ref t_), (1, .ref a_), (2, .ref b_)] → W p l e (headSpec wsX2_countAlike rX2_countAlike).room s m ([.ref t_, .ref a_, .ref b_] : List Value).toArray below meth c H locs 0 0 Q (F0 m 2 ls []) := by
    intro n_2
    induction n_2 with
    | zero => intro i hi hn_; exact absurd hn_ (Nat.not_lt_zero _)
    | succ n_2 ih_2 =>
      intro i hi hn_2 H locs ls hP hD hS hl
      refine lv_iload_n hx hb dX2_countAlike_2 rfl (lv_at hl 0 rfl) ?_
      refine lv_bipush (v := 7) hx hb dX2_countAlike_3 (by decide) ?_
      refine lv_icmp_ge (tgt := 33) hx hb dX2_countAlike_5 (by decide) (fun c5 => ?_) (fun c5 => ?_)
      · skip
        have hi8 := lp_e (n := 7) c5 hi
        subst hi8
        subst hQe
        subst hAe
        subst hsz
        exact g_vret hx hb hr hlocks () trivial hP hK hD hS dX2_countAlike_33
      · skip
        have hi8 := lp_l (n := 7) c5 hi
        have hfa0 := hfa i
        have hfb0 := hfb i
        refine lv_aload_n hx hb dX2_countAlike_8 rfl (lv_at hl 2 rfl) ?_
        refine lv_iload_n hx hb dX2_countAlike_9 rfl (lv_at hl 0 rfl) ?_
        refine va_iald hx hb hK hP (qa + 2) 0 hqa rfl (by first | exact vp_in_nI (by omega) (by omega) | assumption) dX2_countAlike_10 ?_
        refine lv_topi (fun x10 ex10 => ?_)
        rw [nI_clamp (by omega)] at ex10
        obtain rfl : x10 = nI (fa i) := by exact ex10
        refine lv_aload_n hx hb dX2_countAlike_11 rfl (lv_at hl 3 rfl) ?_
        refine lv_iload_n hx hb dX2_countAlike_12 rfl (lv_at hl 0 rfl) ?_
        refine va_iald hx hb hK hP (qb + 2) 0 hqb rfl (by first | exact vp_in_nI (by omega) (by omega) | assumption) dX2_countAlike_13 ?_
        refine lv_topi (fun x13 ex13 => ?_)
        rw [nI_clamp (by omega)] at ex13
        obtain rfl : x13 = nI (fb i) := by exact ex13
        refine lv_icmp_ne (tgt := 27) hx hb dX2_countAlike_14 (by decide) (fun c14 => ?_) (fun c14 => ?_)
        · skip
          have hne : fa i ≠ fb i := fun h => c14 (by rw [h])
          rw [← fu_same (g := (fun k => al k + (if fa k = fb k then 1 else 0))) (f := al) (n := i) (by simp [hne])] at hP hD
          obtain ⟨x27, ex27⟩ : ∃ y : Int32, y = (nI i) + 1 := ⟨_, rfl⟩
          refine lv_iinc (v := x27) (lv' := [(3, .int x27), (0, .ref t_), (1, .ref a_), (2, .ref b_)]) hx hb dX2_countAlike_27 hl (k := 0) rfl (by rw [ex27]; rfl) (by decide) rfl (fun ls hl => ?_)
          obtain rfl : x27 = nI (i + 1) := by rw [ex27]; exact nI_1 _
          refine lv_goto (tgt := 2) hx hb dX2_countAlike_30 (by decide) ?_
          exact ih_2 (i + 1) (by omega) (by omega) H locs ls hP hD hS (lv_sub hl [0, 1, 2, 3] rfl)
        · skip
          have heq : fa i = fb i := (nI_eq (by omega) (by omega)).mp c14
          refine lv_aload_n hx hb dX2_countAlike_17 rfl (lv_at hl 1 rfl) ?_
          refine va_get (D := D) (ci := 3) (v := .ref al_) (C := RX2) (T := TX2) (N := 6) hx hb hts in_X2 hown hK hP 0 rfl rfl 4 (by decide) f_23 (fun _ h9 => h9) rfl dX2_countAlike_18 ?_
          refine lv_iload_n hx hb dX2_countAlike_21 rfl (lv_at hl 0 rfl) ?_
          refine lv_dup2_11 hx hb dX2_countAlike_22 rfl rfl ?_
          refine va_iald hx hb hK hP (1) 0 rfl rfl (by first | exact vp_in_nI (by omega) (by omega) | assumption) dX2_countAlike_23 ?_
          refine lv_topi (fun x23 ex23 => ?_)
          rw [nI_clamp (by omega)] at ex23
          obtain rfl : x23 = nI (al i) := by rw [ex23]; exact congrArg nI (fu_ge (Nat.le_refl _))
          refine lv_iconst (v := 1) hx hb dX2_countAlike_24 (by decide) ?_
          refine lv_iadd hx hb dX2_countAlike_25 ?_
          refine lv_topi (fun x25 ex25 => ?_)
          obtain rfl : x25 = nI ((fun k => al k + (if fa k = fb k then 1 else 0)) i) := by rw [ex25, nI_1]; simp [heq]
          refine va_iast hx hb hK hP hD hS 1 0 rfl rfl (by first | exact vp_in_nI (by omega) (by omega) | assumption) dX2_countAlike_26 (fun H locs hP hD hS => ?_)
          rw [nI_clamp (by omega)] at hP hD
          have hP : va_P D vwCl ((t_, .inr (3, [.int (nI K), .ref rk_, .ref ro_, .ref rc_, .ref al_, .int (nI n)])) :: (al_, .inl (cI, 7, .inl (upd (nf (fu (fun k => al k + (if fa k = fb k then 1 else 0)) al i)) i (nI ((fun k => al k + (if fa k = fb k then 1 else 0)) i))))) :: T) H := hP
          have hD : va_D A ((t_, .inr (3, [.int (nI K), .ref rk_, .ref ro_, .ref rc_, .ref al_, .int (nI n)])) :: (al_, .inl (cI, 7, .inl (upd (nf (fu (fun k => al k + (if fa k = fb k then 1 else 0)) al i)) i (nI ((fun k => al k + (if fa k = fb k then 1 else 0)) i))))) :: T) := hD
          have hW_ : upd (nf (fu (fun k => al k + (if fa k = fb k then 1 else 0)) al i)) i (nI ((fun k => al k + (if fa k = fb k then 1 else 0)) i)) = nf (fu (fun k => al k + (if fa k = fb k then 1 else 0)) al (i + 1)) := by rw [nf_upd]; exact congrArg nf (fu_s (g := (fun k => al k + (if fa k = fb k then 1 else 0))))
          rw [hW_] at hP hD
          have hP : va_P D vwCl ((t_, .inr (3, [.int (nI K), .ref rk_, .ref ro_, .ref rc_, .ref al_, .int (nI n)])) :: (al_, .inl (cI, 7, .inl (nf (fu (fun k => al k + (if fa k = fb k then 1 else 0)) al (i + 1))))) :: T) H := hP
          have hD : va_D A ((t_, .inr (3, [.int (nI K), .ref rk_, .ref ro_, .ref rc_, .ref al_, .int (nI n)])) :: (al_, .inl (cI, 7, .inl (nf (fu (fun k => al k + (if fa k = fb k then 1 else 0)) al (i + 1))))) :: T) := hD
          obtain ⟨x27, ex27⟩ : ∃ y : Int32, y = (nI i) + 1 := ⟨_, rfl⟩
          refine lv_iinc (v := x27) (lv' := [(3, .int x27), (0, .ref t_), (1, .ref a_), (2, .ref b_)]) hx hb dX2_countAlike_27 hl (k := 0) rfl (by rw [ex27]; rfl) (by decide) rfl (fun ls hl => ?_)
          obtain rfl : x27 = nI (i + 1) := by rw [ex27]; exact nI_1 _
          refine lv_goto (tgt := 2) hx hb dX2_countAlike_30 (by decide) ?_
          exact ih_2 (i + 1) (by omega) (by omega) H locs ls hP hD hS (lv_sub hl [0, 1, 2, 3] rfl)
  exact L_2 _ 0 (Nat.zero_le _) (Nat.lt_succ_self _) H locs ls hP hD hS (lv_sub hl [0, 1, 2, 3] rfl)
theorem pm_4_0_1_2_3_P {D : va_G} {cl : List vw_C} {H : Heap} {x0 x1 x2 x3 x4 : Nat × va_E} {T : va_W} (h : va_P D cl (x0 :: x1 :: x2 :: x3 :: x4 :: T) H) : va_P D cl (x4 :: x0 :: x1 :: x2 :: x3 :: T) H := va_P.part (X := [x0, x1, x2, x3, x4]) (pl := T) (cx := [x4, x0, x1, x2, x3]) h [4, 0, 1, 2, 3] rfl
theorem pm_4_0_1_2_3_D {A : Nat → Prop} {x0 x1 x2 x3 x4 : Nat × va_E} {T : va_W} (h : va_D A (x0 :: x1 :: x2 :: x3 :: x4 :: T)) : va_D A (x4 :: x0 :: x1 :: x2 :: x3 :: T) := va_D.part (X := [x0, x1, x2, x3, x4]) (pl := T) (cx := [x4, x0, x1, x2, x3]) h [4, 0, 1, 2, 3] (by decide) rfl
theorem pm_1_2_3_4_0_P {D : va_G} {cl : List vw_C} {H : Heap} {x0 x1 x2 x3 x4 : Nat × va_E} {T : va_W} (h : va_P D cl (x0 :: x1 :: x2 :: x3 :: x4 :: T) H) : va_P D cl (x1 :: x2 :: x3 :: x4 :: x0 :: T) H := va_P.part (X := [x0, x1, x2, x3, x4]) (pl := T) (cx := [x1, x2, x3, x4, x0]) h [1, 2, 3, 4, 0] rfl
theorem pm_1_2_3_4_0_D {A : Nat → Prop} {x0 x1 x2 x3 x4 : Nat × va_E} {T : va_W} (h : va_D A (x0 :: x1 :: x2 :: x3 :: x4 :: T)) : va_D A (x1 :: x2 :: x3 :: x4 :: x0 :: T) := va_D.part (X := [x0, x1, x2, x3, x4]) (pl := T) (cx := [x1, x2, x3, x4, x0]) h [1, 2, 3, 4, 0] (by decide) rfl
theorem pm_0_4_1_2_3_P {D : va_G} {cl : List vw_C} {H : Heap} {x0 x1 x2 x3 x4 : Nat × va_E} {T : va_W} (h : va_P D cl (x0 :: x1 :: x2 :: x3 :: x4 :: T) H) : va_P D cl (x0 :: x4 :: x1 :: x2 :: x3 :: T) H := va_P.part (X := [x0, x1, x2, x3, x4]) (pl := T) (cx := [x0, x4, x1, x2, x3]) h [0, 4, 1, 2, 3] rfl
theorem pm_0_4_1_2_3_D {A : Nat → Prop} {x0 x1 x2 x3 x4 : Nat × va_E} {T : va_W} (h : va_D A (x0 :: x1 :: x2 :: x3 :: x4 :: T)) : va_D A (x0 :: x4 :: x1 :: x2 :: x3 :: T) := va_D.part (X := [x0, x1, x2, x3, x4]) (pl := T) (cx := [x0, x4, x1, x2, x3]) h [0, 4, 1, 2, 3] (by decide) rfl
theorem pm_0_2_3_4_1_P {D : va_G} {cl : List vw_C} {H : Heap} {x0 x1 x2 x3 x4 : Nat × va_E} {T : va_W} (h : va_P D cl (x0 :: x1 :: x2 :: x3 :: x4 :: T) H) : va_P D cl (x0 :: x2 :: x3 :: x4 :: x1 :: T) H := va_P.part (X := [x0, x1, x2, x3, x4]) (pl := T) (cx := [x0, x2, x3, x4, x1]) h [0, 2, 3, 4, 1] rfl
theorem pm_0_2_3_4_1_D {A : Nat → Prop} {x0 x1 x2 x3 x4 : Nat × va_E} {T : va_W} (h : va_D A (x0 :: x1 :: x2 :: x3 :: x4 :: T)) : va_D A (x0 :: x2 :: x3 :: x4 :: x1 :: T) := va_D.part (X := [x0, x1, x2, x3, x4]) (pl := T) (cx := [x0, x2, x3, x4, x1]) h [0, 2, 3, 4, 1] (by decide) rfl
abbrev rX2_sumOf : Room := { frames := 1, cells := 0, slots := 0, locals := 23 }
set_option maxHeartbeats 4000000 in
set_option maxRecDepth 100000 in
theorem c_X2_sumOf (l : Launch) (D : va_G) (cI cJ cG : ClassId) (sz : Nat) (R : va_W) (t_ rk_ ro_ rc_ al_ : Nat) (ar ac : Nat → Nat) (K n : Nat) (kn : Nat → Nat) (M C : Nat → Nat → Nat) (al : Nat → Nat) (fc : Nat → Nat) (ca_ qc kd : Nat) (w : Int32) (hqc : (pr cI ar M ++ (pq cI ac C ++ R))[qc]? = some (ca_, .inl (cI, 7, .inl (nf fc)))) (hn : n ≤ 40) (hC : ∀ i k, C i k < 8) (hfc : ∀ k, fc k < 8) (hkn : ∀ i, kn i ≤ 255) (hkd : kd ≤ 255) : Met l yX2_sumOf wsX2_sumOf rX2_sumOf (gP D (tyl cI cJ cG) [.ref t_, .int (nI kd), .ref ca_, .int w] ((t_, .inr (3, [.int (nI K), .ref rk_, .ref ro_, .ref rc_, .ref al_, .int (nI n)])) :: (rk_, .inl (cI, 40, .inl (nf kn))) :: (ro_, .inl (cG, 40, .inr (.inr (.inr (.inr (og ar)))))) :: (rc_, .inl (cG, 40, .inr (.inr (.inr (.inr (og ac)))))) :: (al_, .inl (cI, 7, .inl (nf al))) :: (pr cI ar M ++ (pq cI ac C ++ R))) sz) (gQl D (tyl cI cJ cG) ((t_, .inr (3, [.int (nI K), .ref rk_, .ref ro_, .ref rc_, .ref al_, .int (nI n)])) :: (rk_, .inl (cI, 40, .inl (nf kn))) :: (ro_, .inl (cG, 40, .inr (.inr (.inr (.inr (og ar)))))) :: (rc_, .inl (cG, 40, .inr (.inr (.inr (.inr (og ac)))))) :: (al_, .inl (cI, 7, .inl (nf al))) :: (pr cI ar M ++ (pq cI ac C ++ R))) sz (fun r (_ : Unit) => r = lN (SUM kn C fc kd w n)) (fun _ => ((t_, .inr (3, [.int (nI K), .ref rk_, .ref ro_, .ref rc_, .ref al_, .int (nI n)])) :: (rk_, .inl (cI, 40, .inl (nf kn))) :: (ro_, .inl (cG, 40, .inr (.inr (.inr (.inr (og ar)))))) :: (rc_, .inl (cG, 40, .inr (.inr (.inr (.inr (og ac)))))) :: (al_, .inl (cI, 7, .inl (nf (alk kn C fc al kd w n)))) :: (pr cI ar M ++ (pq cI ac C ++ R))))) 0 0 (va_A ((t_, .inr (3, [.int (nI K), .ref rk_, .ref ro_, .ref rc_, .ref al_, .int (nI n)])) :: (rk_, .inl (cI, 40, .inl (nf kn))) :: (ro_, .inl (cG, 40, .inr (.inr (.inr (.inr (og ar)))))) :: (rc_, .inl (cG, 40, .inr (.inr (.inr (.inr (og ac)))))) :: (al_, .inl (cI, 7, .inl (nf al))) :: (pr cI ar M ++ (pq cI ac C ++ R))) sz) := by
  refine gMet (cc := cX2_sumOf) (maxL := 8) (ret := (some .long)) (ls0 := [(0, .ref t_), (1, .int (nI kd)), (2, .ref ca_), (3, .int w)]) (by decide) rfl (Nat.le_of_ble_eq_true rfl) rfl ?_
  intro p e s m below meth c hx hb hr hts hown hlocks hml hname A hA hAe hsz Q hQe H locs hP hK hD hS ls hl
  have hown : s.vm.findClass RX2 = some m.cls := hown
  have in_X2 : ∀ w ∈ wsX20, w ∈ wsX2_sumOf := by decide +kernel
  have f_23 := hts (.fieldLink RX2 23 "SpectrumHeads$Table" "alike" "[I") (by decide +kernel)
  have f_30 := hts (.fieldLink RX2 30 "SpectrumHeads$Table" "count" "I") (by decide +kernel)
  have f_9 := hts (.fieldLink RX2 9 "SpectrumHeads$Table" "rowKinds" "[I") (by decide +kernel)
  have f_20 := hts (.fieldLink RX2 20 "SpectrumHeads$Table" "rowCells" "[[I") (by decide +kernel)
  refine lv_aload_n hx hb dX2_sumOf_0 rfl (lv_at hl 0 rfl) ?_
  refine va_get (D := D) (ci := 3) (v := .ref al_) (C := RX2) (T := TX2) (N := 6) hx hb hts in_X2 hown hK hP 0 rfl rfl 4 (by decide) f_23 (fun _ h9 => h9) rfl dX2_sumOf_1 ?_
  refine lv_iconst (v := 0) hx hb dX2_sumOf_4 (by decide) ?_
  have hP := pm_4_0_1_2_3_P hP
  have hD := pm_4_0_1_2_3_D hD
  refine gc_Sv (As := [.ref al_, .int 0]) (rest := []) ⟨hx, hb, hml, hown, hts⟩ (c_J7_fill_53178 l D cI cJ cG H.size ((t_, .inr (3, [.int (nI K), .ref rk_, .ref ro_, .ref rc_, .ref al_, .int (nI n)])) :: (rk_, .inl (cI, 40, .inl (nf kn))) :: (ro_, .inl (cG, 40, .inr (.inr (.inr (.inr (og ar)))))) :: (rc_, .inl (cG, 40, .inr (.inr (.inr (.inr (og ac)))))) :: (pr cI ar M ++ (pq cI ac C ++ R))) al_ 7 (nf al) 0 (by omega)) (va_cwS 2 hts gX2_sumOf_J7_fill_53178 rfl rfl rfl (by decide +kernel) ⟨Nat.le_of_ble_eq_true rfl, Nat.le_of_ble_eq_true rfl⟩) hK hP hD hS hA rfl hl.1 rfl (Nat.le_of_ble_eq_true rfl) dX2_sumOf_5 ⟨Nat.le_of_ble_eq_true rfl, Nat.le_of_ble_eq_true rfl⟩ (fun u5 H locs h5 hP hD hS => ?_)
  have hP : va_P D vwCl ((al_, .inl (cI, 7, .inl (fu (fun _ => (0 : Int32)) (nf al) 7))) :: (t_, .inr (3, [.int (nI K), .ref rk_, .ref ro_, .ref rc_, .ref al_, .int (nI n)])) :: (rk_, .inl (cI, 40, .inl (nf kn))) :: (ro_, .inl (cG, 40, .inr (.inr (.inr (.inr (og ar)))))) :: (rc_, .inl (cG, 40, .inr (.inr (.inr (.inr (og ac)))))) :: (pr cI ar M ++ (pq cI ac C ++ R))) H := hP
  have hD : va_D A ((al_, .inl (cI, 7, .inl (fu (fun _ => (0 : Int32)) (nf al) 7))) :: (t_, .inr (3, [.int (nI K), .ref rk_, .ref ro_, .ref rc_, .ref al_, .int (nI n)])) :: (rk_, .inl (cI, 40, .inl (nf kn))) :: (ro_, .inl (cG, 40, .inr (.inr (.inr (.inr (og ar)))))) :: (rc_, .inl (cG, 40, .inr (.inr (.inr (.inr (og ac)))))) :: (pr cI ar M ++ (pq cI ac C ++ R))) := hD
  rw [alk_0 (kn := kn) (C := C) (fc := fc) (kd := kd) (w := w)] at hP hD
  have hP := pm_1_2_3_4_0_P hP
  have hD := pm_1_2_3_4_0_D hD
  have hP : va_P D vwCl ((t_, .inr (3, [.int (nI K), .ref rk_, .ref ro_, .ref rc_, .ref al_, .int (nI n)])) :: (rk_, .inl (cI, 40, .inl (nf kn))) :: (ro_, .inl (cG, 40, .inr (.inr (.inr (.inr (og ar)))))) :: (rc_, .inl (cG, 40, .inr (.inr (.inr (.inr (og ac)))))) :: (al_, .inl (cI, 7, .inl (nf (alk kn C fc al kd w 0)))) :: (pr cI ar M ++ (pq cI ac C ++ R))) H := hP
  have hD : va_D A ((t_, .inr (3, [.int (nI K), .ref rk_, .ref ro_, .ref rc_, .ref al_, .int (nI n)])) :: (rk_, .inl (cI, 40, .inl (nf kn))) :: (ro_, .inl (cG, 40, .inr (.inr (.inr (.inr (og ar)))))) :: (rc_, .inl (cG, 40, .inr (.inr (.inr (.inr (og ac)))))) :: (al_, .inl (cI, 7, .inl (nf (alk kn C fc al kd w 0)))) :: (pr cI ar M ++ (pq cI ac C ++ R))) := hD
  refine lv_iconst (v := 0) hx hb dX2_sumOf_8 (by decide) ?_
  refine lv_istore (lv' := [(4, .int 0), (0, .ref t_), (1, .int (nI kd)), (2, .ref ca_), (3, .int w)]) hx hb dX2_sumOf_9 hl (by decide) rfl (fun ls hl => ?_)
  refine lv_iconst (v := 0) hx hb dX2_sumOf_11 (by decide) ?_
  refine lv_istore (lv' := [(5, .int 0), (4, .int 0), (0, .ref t_), (1, .int (nI kd)), (2, .ref ca_), (3, .int w)]) hx hb dX2_sumOf_12 hl (by decide) rfl (fun ls hl => ?_)
  have L_14 : ∀ (n_14 : Nat) (i : Nat) (hi : i ≤ n), n - i < n_14 → ∀ (H : Heap) (locs : List Loc) (ls : Array Slot), va_P D vwCl ((t_, .inr (3, [.int (nI K), .ref rk_, .ref ro_, .ref rc_, .ref al_, .int (nI n)])) :: (rk_, .inl (cI, 40, .inl (nf kn))) :: (ro_, .inl (cG, 40, .inr (.inr (.inr (.inr (og ar)))))) :: (rc_, .inl (cG, 40, .inr (.inr (.inr (.inr (og ac)))))) :: (al_, .inl (cI, 7, .inl (nf (alk kn C fc al kd w i)))) :: (pr cI ar M ++ (pq cI ac C ++ R))) H → va_D A ((t_, .inr (3, [.int (nI K), .ref rk_, .ref ro_, .ref rc_, .ref al_, .int (nI n)])) :: (rk_, .inl (cI, 40, .inl (nf kn))) :: (ro_, .inl (cG, 40, .inr (.inr (.inr (.inr (og ar)))))) :: (rc_, .inl (cG, 40, .inr (.inr (.inr (.inr (og ac)))))) :: (al_, .inl (cI, 7, .inl (nf (alk kn C fc al kd w i)))) :: (pr cI ar M ++ (pq cI ac C ++ R))) → va_S A s.heap H locs → lv_has ls 8 [(5, .int (nI i)), (4, .int (nI (cnt (okR kn kd w) i))), (0, .ref t_), (1, .int (nI kd)), (2, .ref ca_), (3, .int w)] → W p l e (headSpec wsX2_sumOf rX2_sumOf).room s m ([.ref t_, .int (nI kd), .ref ca_, .int w] : List Value).toArray below meth c H locs 0 0 Q (F0 m 14 ls []) := by
    intro n_14
    induction n_14 with
    | zero => intro i hi hn_; exact absurd hn_ (Nat.not_lt_zero _)
    | succ n_14 ih_14 =>
      intro i hi hn_14 H locs ls hP hD hS hl
      refine lv_iload hx hb dX2_sumOf_14 (lv_at hl 0 rfl) ?_
      refine lv_aload_n hx hb dX2_sumOf_16 rfl (lv_at hl 2 rfl) ?_
      refine va_get (D := D) (ci := 3) (v := .int (nI n)) (C := RX2) (T := TX2) (N := 6) hx hb hts in_X2 hown hK hP 0 rfl rfl 5 (by decide) f_30 (fun _ h9 => h9) rfl dX2_sumOf_17 ?_
      refine lv_icmp_ge (tgt := 61) hx hb dX2_sumOf_20 (by decide) (fun c20 => ?_) (fun c20 => ?_)
      · skip
        have hE20 := lp_e (n := n) c20 hi
        subst hE20
        refine lv_iload hx hb dX2_sumOf_61 (lv_at hl 1 rfl) ?_
        refine lv_if_ne (tgt := 68) hx hb dX2_sumOf_63 (by decide) (fun c63 => ?_) (fun c63 => ?_)
        · skip
          have hcl : cnt (okR kn kd w) n ≤ n := cnt_le _ _
          have hof : ¬ cnt (okR kn kd w) n = 0 := fun h => c63 (by rw [h]; rfl)
          refine lv_lconst (v := 0) hx hb dX2_sumOf_68 (by decide) ?_
          refine lv_lstore (lv' := [(5, .long 0), (4, .int (nI (cnt (okR kn kd w) n))), (0, .ref t_), (1, .int (nI kd)), (2, .ref ca_), (3, .int w)]) hx hb dX2_sumOf_69 hl (by decide) rfl (fun ls hl => ?_)
          refine lv_iconst (v := 0) hx hb dX2_sumOf_71 (by decide) ?_
          refine lv_istore (lv' := [(7, .int 0), (5, .long 0), (4, .int (nI (cnt (okR kn kd w) n))), (0, .ref t_), (1, .int (nI kd)), (2, .ref ca_), (3, .int w)]) hx hb dX2_sumOf_72 hl (by decide) rfl (fun ls hl => ?_)
          have L_74 : ∀ (n_74 : Nat) (k : Nat) (hk : k ≤ 7), 7 - k < n_74 → ∀ (H : Heap) (locs : List Loc) (ls : Array Slot), va_P D vwCl ((t_, .inr (3, [.int (nI K), .ref rk_, .ref ro_, .ref rc_, .ref al_, .int (nI n)])) :: (rk_, .inl (cI, 40, .inl (nf kn))) :: (ro_, .inl (cG, 40, .inr (.inr (.inr (.inr (og ar)))))) :: (rc_, .inl (cG, 40, .inr (.inr (.inr (.inr (og ac)))))) :: (al_, .inl (cI, 7, .inl (nf (alk kn C fc al kd w n)))) :: (pr cI ar M ++ (pq cI ac C ++ R))) H → va_D A ((t_, .inr (3, [.int (nI K), .ref rk_, .ref ro_, .ref rc_, .ref al_, .int (nI n)])) :: (rk_, .inl (cI, 40, .inl (nf kn))) :: (ro_, .inl (cG, 40, .inr (.inr (.inr (.inr (og ar)))))) :: (rc_, .inl (cG, 40, .inr (.inr (.inr (.inr (og ac)))))) :: (al_, .inl (cI, 7, .inl (nf (alk kn C fc al kd w n)))) :: (pr cI ar M ++ (pq cI ac C ++ R))) → va_S A s.heap H locs → lv_has ls 8 [(7, .int (nI k)), (5, .long (lN (sumK kn C fc kd w n k))), (4, .int (nI (cnt (okR kn kd w) n))), (0, .ref t_)] → W p l e (headSpec wsX2_sumOf rX2_sumOf).room s m ([.ref t_, .int (nI kd), .ref ca_, .int w] : List Value).toArray below meth c H locs 0 0 Q (F0 m 74 ls []) := by
            intro n_74
            induction n_74 with
            | zero => intro k hk hn_; exact absurd hn_ (Nat.not_lt_zero _)
            | succ n_74 ih_74 =>
              intro k hk hn_74 H locs ls hP hD hS hl
              refine lv_iload hx hb dX2_sumOf_74 (lv_at hl 0 rfl) ?_
              refine lv_bipush (v := 7) hx hb dX2_sumOf_76 (by decide) ?_
              refine lv_icmp_ge (tgt := 107) hx hb dX2_sumOf_78 (by decide) (fun c78 => ?_) (fun c78 => ?_)
              · skip
                have hE78 := lp_e (n := 7) c78 hk
                subst hE78
                refine lv_lload hx hb dX2_sumOf_107 (lv_at hl 1 rfl) ?_
                subst hQe
                subst hAe
                subst hsz
                exact g_lret hx hb hr hlocks () rfl hP hK hD hS dX2_sumOf_109
              · skip
                have hk8 := lp_l (n := 7) c78 hk
                have hsl : cnt (samR kn C fc kd w k) n ≤ n := cnt_le _ _
                refine lv_lload hx hb dX2_sumOf_81 (lv_at hl 1 rfl) ?_
                refine lv_aload_n hx hb dX2_sumOf_83 rfl (lv_at hl 3 rfl) ?_
                refine va_get (D := D) (ci := 3) (v := .ref al_) (C := RX2) (T := TX2) (N := 6) hx hb hts in_X2 hown hK hP 0 rfl rfl 4 (by decide) f_23 (fun _ h9 => h9) rfl dX2_sumOf_84 ?_
                refine lv_iload hx hb dX2_sumOf_87 (lv_at hl 0 rfl) ?_
                refine va_iald hx hb hK hP (4) 0 rfl rfl (by first | exact vp_in_nI (by omega) (by omega) | assumption) dX2_sumOf_89 ?_
                refine lv_topi (fun x89 ex89 => ?_)
                rw [nI_clamp (by omega)] at ex89
                obtain rfl : x89 = nI (cnt (samR kn C fc kd w k) n) := by rw [ex89]; exact congrArg nI (alk_at hk8)
                refine lv_sipush (v := 1000) hx hb dX2_sumOf_90 (by decide) ?_
                refine lv_imul hx hb dX2_sumOf_93 ?_
                refine lv_topi (fun x93 ex93 => ?_)
                obtain rfl : x93 = nI (cnt (samR kn C fc kd w k) n * 1000) := by rw [ex93]; exact pk_mul _ 1000
                refine lv_iload hx hb dX2_sumOf_94 (lv_at hl 2 rfl) ?_
                refine lv_idiv hx hb dX2_sumOf_96 (nI_ne0 (by omega) (by omega)) ?_
                refine lv_topi (fun x96 ex96 => ?_)
                obtain rfl : x96 = nI (cnt (samR kn C fc kd w k) n * 1000 / cnt (okR kn kd w) n) := by rw [ex96]; exact pk_div (by omega) (by omega) (by omega)
                refine lv_i2l hx hb dX2_sumOf_97 rfl ?_
                refine lv_topl (fun x97 ex97 => ?_)
                obtain rfl : x97 = lN (cnt (samR kn C fc kd w k) n * 1000 / cnt (okR kn kd w) n) := by rw [ex97]; exact nI_l (Nat.lt_of_le_of_lt (Nat.div_le_self _ _) (by omega))
                refine lv_ladd hx hb dX2_sumOf_98 ?_
                refine lv_topl (fun x98 ex98 => ?_)
                obtain rfl : x98 = lN (sumK kn C fc kd w n (k + 1)) := by rw [ex98, lN_add, sumK_s hof]
                refine lv_lstore (lv' := [(5, .long (lN (sumK kn C fc kd w n (k + 1)))), (7, .int (nI k)), (4, .int (nI (cnt (okR kn kd w) n))), (0, .ref t_)]) hx hb dX2_sumOf_99 hl (by decide) rfl (fun ls hl => ?_)
                obtain ⟨x101, ex101⟩ : ∃ y : Int32, y = (nI k) + 1 := ⟨_, rfl⟩
                refine lv_iinc (v := x101) (lv' := [(7, .int x101), (5, .long (lN (sumK kn C fc kd w n (k + 1)))), (4, .int (nI (cnt (okR kn kd w) n))), (0, .ref t_)]) hx hb dX2_sumOf_101 hl (k := 1) rfl (by rw [ex101]; rfl) (by decide) rfl (fun ls hl => ?_)
                obtain rfl : x101 = nI (k + 1) := by rw [ex101]; exact nI_1 _
                refine lv_goto (tgt := 74) hx hb dX2_sumOf_104 (by decide) ?_
                exact ih_74 (k + 1) (by omega) (by omega) H locs ls hP hD hS (lv_sub hl [0, 1, 2, 3] rfl)
          exact L_74 _ 0 (Nat.zero_le _) (Nat.lt_succ_self _) H locs ls hP hD hS (lv_sub hl [0, 1, 2, 3] rfl)
        · skip
          have hcl : cnt (okR kn kd w) n ≤ n := cnt_le _ _
          have hof : cnt (okR kn kd w) n = 0 := (nI_eq (b := 0) (by omega) (by omega)).mp c63
          refine lv_lconst (v := 0) hx hb dX2_sumOf_66 (by decide) ?_
          subst hQe
          subst hAe
          subst hsz
          exact g_lret hx hb hr hlocks () (by rw [SUM_0 hof]; rfl) hP hK hD hS dX2_sumOf_67
      · skip
        have hi8 := lp_l (n := n) c20 hi
        have hkn0 := hkn i
        refine lv_aload_n hx hb dX2_sumOf_23 rfl (lv_at hl 2 rfl) ?_
        refine va_get (D := D) (ci := 3) (v := .ref rk_) (C := RX2) (T := TX2) (N := 6) hx hb hts in_X2 hown hK hP 0 rfl rfl 1 (by decide) f_9 (fun _ h9 => h9) rfl dX2_sumOf_24 ?_
        refine lv_iload hx hb dX2_sumOf_27 (lv_at hl 0 rfl) ?_
        refine va_iald hx hb hK hP (1) 0 rfl rfl (by first | exact vp_in_nI (by omega) (by omega) | assumption) dX2_sumOf_29 ?_
        refine lv_topi (fun x29 ex29 => ?_)
        rw [nI_clamp (by omega)] at ex29
        obtain rfl : x29 = nI (kn i) := by exact ex29
        refine lv_iload_n hx hb dX2_sumOf_30 rfl (lv_at hl 3 rfl) ?_
        refine lv_icmp_ne (tgt := 55) hx hb dX2_sumOf_31 (by decide) (fun c31 => ?_) (fun c31 => ?_)
        · skip
          have hok : okR kn kd w i = false := okR_f1 (fun h => c31 (by rw [h]))
          rw [cnt_n hok] at hl
          rw [alk_n hok] at hP hD
          obtain ⟨x55, ex55⟩ : ∃ y : Int32, y = (nI i) + 1 := ⟨_, rfl⟩
          refine lv_iinc (v := x55) (lv' := [(5, .int x55), (4, .int (nI (cnt (okR kn kd w) (i + 1)))), (0, .ref t_), (1, .int (nI kd)), (2, .ref ca_), (3, .int w)]) hx hb dX2_sumOf_55 hl (k := 0) rfl (by rw [ex55]; rfl) (by decide) rfl (fun ls hl => ?_)
          obtain rfl : x55 = nI (i + 1) := by rw [ex55]; exact nI_1 _
          refine lv_goto (tgt := 14) hx hb dX2_sumOf_58 (by decide) ?_
          exact ih_14 (i + 1) (by omega) (by omega) H locs ls hP hD hS (lv_sub hl [0, 1, 2, 3, 4, 5] rfl)
        · skip
          have hki : kn i = kd := (nI_eq (by omega) (by omega)).mp c31
          refine lv_iload hx hb dX2_sumOf_34 (lv_at hl 0 rfl) ?_
          refine lv_iload_n hx hb dX2_sumOf_36 rfl (lv_at hl 5 rfl) ?_
          refine lv_icmp_eq (tgt := 55) hx hb dX2_sumOf_37 (by decide) (fun c37 => ?_) (fun c37 => ?_)
          · skip
            have hok : okR kn kd w i = false := okR_f2 c37
            rw [cnt_n hok] at hl
            rw [alk_n hok] at hP hD
            obtain ⟨x55, ex55⟩ : ∃ y : Int32, y = (nI i) + 1 := ⟨_, rfl⟩
            refine lv_iinc (v := x55) (lv' := [(5, .int x55), (4, .int (nI (cnt (okR kn kd w) (i + 1)))), (0, .ref t_), (1, .int (nI kd)), (2, .ref ca_), (3, .int w)]) hx hb dX2_sumOf_55 hl (k := 0) rfl (by rw [ex55]; rfl) (by decide) rfl (fun ls hl => ?_)
            obtain rfl : x55 = nI (i + 1) := by rw [ex55]; exact nI_1 _
            refine lv_goto (tgt := 14) hx hb dX2_sumOf_58 (by decide) ?_
            exact ih_14 (i + 1) (by omega) (by omega) H locs ls hP hD hS (lv_sub hl [0, 1, 2, 3, 4, 5] rfl)
          · skip
            have hok : okR kn kd w i = true := okR_t hki c37
            obtain ⟨x40, ex40⟩ : ∃ y : Int32, y = (nI (cnt (okR kn kd w) i)) + 1 := ⟨_, rfl⟩
            refine lv_iinc (v := x40) (lv' := [(4, .int x40), (5, .int (nI i)), (0, .ref t_), (1, .int (nI kd)), (2, .ref ca_), (3, .int w)]) hx hb dX2_sumOf_40 hl (k := 1) rfl (by rw [ex40]; rfl) (by decide) rfl (fun ls hl => ?_)
            obtain rfl : x40 = nI (cnt (okR kn kd w) (i + 1)) := by rw [ex40, nI_1, cnt_s hok]
            refine lv_aload_n hx hb dX2_sumOf_43 rfl (lv_at hl 2 rfl) ?_
            refine lv_aload_n hx hb dX2_sumOf_44 rfl (lv_at hl 4 rfl) ?_
            refine lv_aload_n hx hb dX2_sumOf_45 rfl (lv_at hl 2 rfl) ?_
            refine va_get (D := D) (ci := 3) (v := .ref rc_) (C := RX2) (T := TX2) (N := 6) hx hb hts in_X2 hown hK hP 0 rfl rfl 3 (by decide) f_20 (fun _ h9 => h9) rfl dX2_sumOf_46 ?_
            refine lv_iload hx hb dX2_sumOf_49 (lv_at hl 1 rfl) ?_
            refine g_aald (v := (ac i)) hx hb hK hP 3 2 rfl rfl (by first | exact vp_in_nI (by omega) (by omega) | assumption) (og_nI (by omega)) dX2_sumOf_51 ?_
            have hP := pm_0_4_1_2_3_P hP
            have hD := pm_0_4_1_2_3_D hD
            refine gc_Vv (As := [.ref ca_, .ref (ac i)]) (rest := []) (ci := 3) (q0 := 0) ⟨hx, hb, hml, hown, hts⟩ (c_X2_countAlike l D cI cJ cG H.size ((rk_, .inl (cI, 40, .inl (nf kn))) :: (ro_, .inl (cG, 40, .inr (.inr (.inr (.inr (og ar)))))) :: (rc_, .inl (cG, 40, .inr (.inr (.inr (.inr (og ac)))))) :: (pr cI ar M ++ (pq cI ac C ++ R))) t_ rk_ ro_ rc_ al_ K n (alk kn C fc al kd w i) fc (C i) ca_ (ac i) (qc + 3) (i + 43) hqc (pq_get (by omega)) hfc (hC i)) (cwV 2 hts gX2_sumOf_X2_countAlike rfl rfl rfl (by decide +kernel) ⟨Nat.le_of_ble_eq_true rfl, Nat.le_of_ble_eq_true rfl⟩) rfl rfl rfl hK hP hD hS hA rfl hl.1 rfl (Nat.le_of_ble_eq_true rfl) dX2_sumOf_52 ⟨Nat.le_of_ble_eq_true rfl, Nat.le_of_ble_eq_true rfl⟩ (fun u52 H locs h52 hP hD hS => ?_)
            have hP : va_P D vwCl ((t_, .inr (3, [.int (nI K), .ref rk_, .ref ro_, .ref rc_, .ref al_, .int (nI n)])) :: (al_, .inl (cI, 7, .inl (nf (fu (fun k => alk kn C fc al kd w i k + (if fc k = C i k then 1 else 0)) (alk kn C fc al kd w i) 7)))) :: (rk_, .inl (cI, 40, .inl (nf kn))) :: (ro_, .inl (cG, 40, .inr (.inr (.inr (.inr (og ar)))))) :: (rc_, .inl (cG, 40, .inr (.inr (.inr (.inr (og ac)))))) :: (pr cI ar M ++ (pq cI ac C ++ R))) H := hP
            have hD : va_D A ((t_, .inr (3, [.int (nI K), .ref rk_, .ref ro_, .ref rc_, .ref al_, .int (nI n)])) :: (al_, .inl (cI, 7, .inl (nf (fu (fun k => alk kn C fc al kd w i k + (if fc k = C i k then 1 else 0)) (alk kn C fc al kd w i) 7)))) :: (rk_, .inl (cI, 40, .inl (nf kn))) :: (ro_, .inl (cG, 40, .inr (.inr (.inr (.inr (og ar)))))) :: (rc_, .inl (cG, 40, .inr (.inr (.inr (.inr (og ac)))))) :: (pr cI ar M ++ (pq cI ac C ++ R))) := hD
            rw [alk_s hok] at hP hD
            have hP := pm_0_2_3_4_1_P hP
            have hD := pm_0_2_3_4_1_D hD
            have hP : va_P D vwCl ((t_, .inr (3, [.int (nI K), .ref rk_, .ref ro_, .ref rc_, .ref al_, .int (nI n)])) :: (rk_, .inl (cI, 40, .inl (nf kn))) :: (ro_, .inl (cG, 40, .inr (.inr (.inr (.inr (og ar)))))) :: (rc_, .inl (cG, 40, .inr (.inr (.inr (.inr (og ac)))))) :: (al_, .inl (cI, 7, .inl (nf (alk kn C fc al kd w (i + 1))))) :: (pr cI ar M ++ (pq cI ac C ++ R))) H := hP
            have hD : va_D A ((t_, .inr (3, [.int (nI K), .ref rk_, .ref ro_, .ref rc_, .ref al_, .int (nI n)])) :: (rk_, .inl (cI, 40, .inl (nf kn))) :: (ro_, .inl (cG, 40, .inr (.inr (.inr (.inr (og ar)))))) :: (rc_, .inl (cG, 40, .inr (.inr (.inr (.inr (og ac)))))) :: (al_, .inl (cI, 7, .inl (nf (alk kn C fc al kd w (i + 1))))) :: (pr cI ar M ++ (pq cI ac C ++ R))) := hD
            obtain ⟨x55, ex55⟩ : ∃ y : Int32, y = (nI i) + 1 := ⟨_, rfl⟩
            refine lv_iinc (v := x55) (lv' := [(5, .int x55), (4, .int (nI (cnt (okR kn kd w) (i + 1)))), (0, .ref t_), (1, .int (nI kd)), (2, .ref ca_), (3, .int w)]) hx hb dX2_sumOf_55 hl (k := 1) rfl (by rw [ex55]; rfl) (by decide) rfl (fun ls hl => ?_)
            obtain rfl : x55 = nI (i + 1) := by rw [ex55]; exact nI_1 _
            refine lv_goto (tgt := 14) hx hb dX2_sumOf_58 (by decide) ?_
            exact ih_14 (i + 1) (by omega) (by omega) H locs ls hP hD hS (lv_sub hl [0, 1, 2, 3, 4, 5] rfl)
  exact L_14 _ 0 (Nat.zero_le _) (Nat.lt_succ_self _) H locs ls hP hD hS (lv_sub hl [0, 1, 2, 3, 4, 5] rfl)
