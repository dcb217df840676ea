abbrev rX1_setWhite : Room := { frames := 0, cells := 0, slots := 0, locals := 0 }
set_option maxHeartbeats 4000000 in
set_option maxRecDepth 100000 in
theorem c_X1_setWhite (l : Launch) (D : va_G) (cI cJ cG : ClassId) (sz : Nat) (R : va_W) (c_ d_ w_ v_ : Nat) (dn wn vn : Nat → Nat) (tk : Int64) (j x : Nat) (hj : j < 8) : Met l yX1_setWhite wsX1_setWhite rX1_setWhite (gP D (tyl cI cJ cG) [.ref c_, .int (nI j), .int (nI x)] ((c_, .inr (2, [.ref d_, .ref w_, .ref v_, .long tk])) :: (d_, .inl (cI, 8, .inl (nf dn))) :: (w_, .inl (cI, 8, .inl (nf wn))) :: (v_, .inl (cI, 8, .inl (nf vn))) :: R) sz) (gQi D (tyl cI cJ cG) ((c_, .inr (2, [.ref d_, .ref w_, .ref v_, .long tk])) :: (d_, .inl (cI, 8, .inl (nf dn))) :: (w_, .inl (cI, 8, .inl (nf wn))) :: (v_, .inl (cI, 8, .inl (nf vn))) :: R) sz (fun r (_ : Unit) => r = 1) (fun _ => ((c_, .inr (2, [.ref d_, .ref w_, .ref v_, .long tk])) :: (d_, .inl (cI, 8, .inl (nf dn))) :: (w_, .inl (cI, 8, .inl (nf (un wn j x)))) :: (v_, .inl (cI, 8, .inl (nf vn))) :: R))) 0 0 (va_A ((c_, .inr (2, [.ref d_, .ref w_, .ref v_, .long tk])) :: (d_, .inl (cI, 8, .inl (nf dn))) :: (w_, .inl (cI, 8, .inl (nf wn))) :: (v_, .inl (cI, 8, .inl (nf vn))) :: R) sz) := by
  refine gMet (cc := cX1_setWhite) (maxL := 3) (ret := (some .boolean)) (ls0 := [(0, .ref c_), (1, .int (nI j)), (2, .int (nI x))]) (by decide) rfl (Nat.le_of_ble_eq_true rfl) rfl ?_
  intro p e s m below meth c hx hb hr hts hown hlocks hml hname A hA hAe hsz Q hQe H locs hP hK hD hS ls hl
  have hown : s.vm.findClass RX1 = some m.cls := hown
  have in_X1 : ∀ w ∈ wsX10, w ∈ wsX1_setWhite := by decide +kernel
  have f_15 := hts (.fieldLink RX1 15 "SpectrumHeads$Channels" "whites" "[I") (by decide +kernel)
  refine lv_aload_n hx hb dX1_setWhite_0 rfl (lv_at hl 0 rfl) ?_
  refine va_get (D := D) (ci := 2) (v := .ref w_) (C := RX1) (T := TX1) (N := 4) hx hb hts in_X1 hown hK hP 0 rfl rfl 1 (by decide) f_15 (fun _ h9 => h9) rfl dX1_setWhite_1 ?_
  refine lv_iload_n hx hb dX1_setWhite_4 rfl (lv_at hl 1 rfl) ?_
  refine lv_iload_n hx hb dX1_setWhite_5 rfl (lv_at hl 2 rfl) ?_
  refine va_iast hx hb hK hP hD hS 2 0 rfl rfl (by first | exact vp_in_nI (by omega) (by omega) | assumption) dX1_setWhite_6 (fun H locs hP hD hS => ?_)
  rw [nI_clamp (by omega)] at hP hD
  have hP : va_P D vwCl ((c_, .inr (2, [.ref d_, .ref w_, .ref v_, .long tk])) :: (d_, .inl (cI, 8, .inl (nf dn))) :: (w_, .inl (cI, 8, .inl (upd (nf wn) j (nI x)))) :: (v_, .inl (cI, 8, .inl (nf vn))) :: R) H := hP
  have hD : va_D A ((c_, .inr (2, [.ref d_, .ref w_, .ref v_, .long tk])) :: (d_, .inl (cI, 8, .inl (nf dn))) :: (w_, .inl (cI, 8, .inl (upd (nf wn) j (nI x)))) :: (v_, .inl (cI, 8, .inl (nf vn))) :: R) := hD
  have hW_ : upd (nf wn) j (nI x) = nf (un wn j x) := by exact nf_upd _ _ _
  rw [hW_] at hP hD
  have hP : va_P D vwCl ((c_, .inr (2, [.ref d_, .ref w_, .ref v_, .long tk])) :: (d_, .inl (cI, 8, .inl (nf dn))) :: (w_, .inl (cI, 8, .inl (nf (un wn j x)))) :: (v_, .inl (cI, 8, .inl (nf vn))) :: R) H := hP
  have hD : va_D A ((c_, .inr (2, [.ref d_, .ref w_, .ref v_, .long tk])) :: (d_, .inl (cI, 8, .inl (nf dn))) :: (w_, .inl (cI, 8, .inl (nf (un wn j x)))) :: (v_, .inl (cI, 8, .inl (nf vn))) :: R) := hD
  refine lv_iconst (v := 1) hx hb dX1_setWhite_7 (by decide) ?_
  subst hQe
  subst hAe
  subst hsz
  exact g_zret hx hb hr hlocks rfl () rfl hP hK hD hS dX1_setWhite_8
abbrev rX1_setDark : Room := { frames := 0, cells := 0, slots := 0, locals := 0 }
set_option maxHeartbeats 4000000 in
set_option maxRecDepth 100000 in
theorem c_X1_setDark (l : Launch) (D : va_G) (cI cJ cG : ClassId) (sz : Nat) (R : va_W) (c_ d_ w_ v_ : Nat) (dn wn vn : Nat → Nat) (tk : Int64) (j x : Nat) (hj : j < 8) : Met l yX1_setDark wsX1_setDark rX1_setDark (gP D (tyl cI cJ cG) [.ref c_, .int (nI j), .int (nI x)] ((c_, .inr (2, [.ref d_, .ref w_, .ref v_, .long tk])) :: (d_, .inl (cI, 8, .inl (nf dn))) :: (w_, .inl (cI, 8, .inl (nf wn))) :: (v_, .inl (cI, 8, .inl (nf vn))) :: R) sz) (gQi D (tyl cI cJ cG) ((c_, .inr (2, [.ref d_, .ref w_, .ref v_, .long tk])) :: (d_, .inl (cI, 8, .inl (nf dn))) :: (w_, .inl (cI, 8, .inl (nf wn))) :: (v_, .inl (cI, 8, .inl (nf vn))) :: R) sz (fun r (_ : Unit) => r = 1) (fun _ => ((c_, .inr (2, [.ref d_, .ref w_, .ref v_, .long tk])) :: (d_, .inl (cI, 8, .inl (nf (un dn j x)))) :: (w_, .inl (cI, 8, .inl (nf wn))) :: (v_, .inl (cI, 8, .inl (nf vn))) :: R))) 0 0 (va_A ((c_, .inr (2, [.ref d_, .ref w_, .ref v_, .long tk])) :: (d_, .inl (cI, 8, .inl (nf dn))) :: (w_, .inl (cI, 8, .inl (nf wn))) :: (v_, .inl (cI, 8, .inl (nf vn))) :: R) sz) := by
  refine gMet (cc := cX1_setDark) (maxL := 3) (ret := (some .boolean)) (ls0 := [(0, .ref c_), (1, .int (nI j)), (2, .int (nI x))]) (by decide) rfl (Nat.le_of_ble_eq_true rfl) rfl ?_
  intro p e s m below meth c hx hb hr hts hown hlocks hml hname A hA hAe hsz Q hQe H locs hP hK hD hS ls hl
  have hown : s.vm.findClass RX1 = some m.cls := hown
  have in_X1 : ∀ w ∈ wsX10, w ∈ wsX1_setDark := by decide +kernel
  have f_9 := hts (.fieldLink RX1 9 "SpectrumHeads$Channels" "darks" "[I") (by decide +kernel)
  refine lv_aload_n hx hb dX1_setDark_0 rfl (lv_at hl 0 rfl) ?_
  refine va_get (D := D) (ci := 2) (v := .ref d_) (C := RX1) (T := TX1) (N := 4) hx hb hts in_X1 hown hK hP 0 rfl rfl 0 (by decide) f_9 (fun _ h9 => h9) rfl dX1_setDark_1 ?_
  refine lv_iload_n hx hb dX1_setDark_4 rfl (lv_at hl 1 rfl) ?_
  refine lv_iload_n hx hb dX1_setDark_5 rfl (lv_at hl 2 rfl) ?_
  refine va_iast hx hb hK hP hD hS 1 0 rfl rfl (by first | exact vp_in_nI (by omega) (by omega) | assumption) dX1_setDark_6 (fun H locs hP hD hS => ?_)
  rw [nI_clamp (by omega)] at hP hD
  have hP : va_P D vwCl ((c_, .inr (2, [.ref d_, .ref w_, .ref v_, .long tk])) :: (d_, .inl (cI, 8, .inl (upd (nf dn) j (nI x)))) :: (w_, .inl (cI, 8, .inl (nf wn))) :: (v_, .inl (cI, 8, .inl (nf vn))) :: R) H := hP
  have hD : va_D A ((c_, .inr (2, [.ref d_, .ref w_, .ref v_, .long tk])) :: (d_, .inl (cI, 8, .inl (upd (nf dn) j (nI x)))) :: (w_, .inl (cI, 8, .inl (nf wn))) :: (v_, .inl (cI, 8, .inl (nf vn))) :: R) := hD
  have hW_ : upd (nf dn) j (nI x) = nf (un dn j x) := by exact nf_upd _ _ _
  rw [hW_] at hP hD
  have hP : va_P D vwCl ((c_, .inr (2, [.ref d_, .ref w_, .ref v_, .long tk])) :: (d_, .inl (cI, 8, .inl (nf (un dn j x)))) :: (w_, .inl (cI, 8, .inl (nf wn))) :: (v_, .inl (cI, 8, .inl (nf vn))) :: R) H := hP
  have hD : va_D A ((c_, .inr (2, [.ref d_, .ref w_, .ref v_, .long tk])) :: (d_, .inl (cI, 8, .inl (nf (un dn j x)))) :: (w_, .inl (cI, 8, .inl (nf wn))) :: (v_, .inl (cI, 8, .inl (nf vn))) :: R) := hD
  refine lv_iconst (v := 1) hx hb dX1_setDark_7 (by decide) ?_
  subst hQe
  subst hAe
  subst hsz
  exact g_zret hx hb hr hlocks rfl () rfl hP hK hD hS dX1_setDark_8
abbrev rX1_setValue : Room := { frames := 0, cells := 0, slots := 0, locals := 0 }
set_option maxHeartbeats 4000000 in
set_option maxRecDepth 100000 in
theorem c_X1_setValue (l : Launch) (D : va_G) (cI cJ cG : ClassId) (sz : Nat) (R : va_W) (c_ d_ w_ v_ : Nat) (dn wn vn : Nat → Nat) (tk : Int64) (j x : Nat) (hj : j < 8) : Met l yX1_setValue wsX1_setValue rX1_setValue (gP D (tyl cI cJ cG) [.ref c_, .int (nI j), .int (nI x)] ((c_, .inr (2, [.ref d_, .ref w_, .ref v_, .long tk])) :: (d_, .inl (cI, 8, .inl (nf dn))) :: (w_, .inl (cI, 8, .inl (nf wn))) :: (v_, .inl (cI, 8, .inl (nf vn))) :: R) sz) (gQi D (tyl cI cJ cG) ((c_, .inr (2, [.ref d_, .ref w_, .ref v_, .long tk])) :: (d_, .inl (cI, 8, .inl (nf dn))) :: (w_, .inl (cI, 8, .inl (nf wn))) :: (v_, .inl (cI, 8, .inl (nf vn))) :: R) sz (fun r (_ : Unit) => r = 1) (fun _ => ((c_, .inr (2, [.ref d_, .ref w_, .ref v_, .long tk])) :: (d_, .inl (cI, 8, .inl (nf dn))) :: (w_, .inl (cI, 8, .inl (nf wn))) :: (v_, .inl (cI, 8, .inl (nf (un vn j x)))) :: R))) 0 0 (va_A ((c_, .inr (2, [.ref d_, .ref w_, .ref v_, .long tk])) :: (d_, .inl (cI, 8, .inl (nf dn))) :: (w_, .inl (cI, 8, .inl (nf wn))) :: (v_, .inl (cI, 8, .inl (nf vn))) :: R) sz) := by
  refine gMet (cc := cX1_setValue) (maxL := 3) (ret := (some .boolean)) (ls0 := [(0, .ref c_), (1, .int (nI j)), (2, .int (nI x))]) (by decide) rfl (Nat.le_of_ble_eq_true rfl) rfl ?_
  intro p e s m below meth c hx hb hr hts hown hlocks hml hname A hA hAe hsz Q hQe H locs hP hK hD hS ls hl
  have hown : s.vm.findClass RX1 = some m.cls := hown
  have in_X1 : ∀ w ∈ wsX10, w ∈ wsX1_setValue := by decide +kernel
  have f_18 := hts (.fieldLink RX1 18 "SpectrumHeads$Channels" "values" "[I") (by decide +kernel)
  refine lv_aload_n hx hb dX1_setValue_0 rfl (lv_at hl 0 rfl) ?_
  refine va_get (D := D) (ci := 2) (v := .ref v_) (C := RX1) (T := TX1) (N := 4) hx hb hts in_X1 hown hK hP 0 rfl rfl 2 (by decide) f_18 (fun _ h9 => h9) rfl dX1_setValue_1 ?_
  refine lv_iload_n hx hb dX1_setValue_4 rfl (lv_at hl 1 rfl) ?_
  refine lv_iload_n hx hb dX1_setValue_5 rfl (lv_at hl 2 rfl) ?_
  refine va_iast hx hb hK hP hD hS 3 0 rfl rfl (by first | exact vp_in_nI (by omega) (by omega) | assumption) dX1_setValue_6 (fun H locs hP hD hS => ?_)
  rw [nI_clamp (by omega)] at hP hD
  have hP : va_P D vwCl ((c_, .inr (2, [.ref d_, .ref w_, .ref v_, .long tk])) :: (d_, .inl (cI, 8, .inl (nf dn))) :: (w_, .inl (cI, 8, .inl (nf wn))) :: (v_, .inl (cI, 8, .inl (upd (nf vn) j (nI x)))) :: R) H := hP
  have hD : va_D A ((c_, .inr (2, [.ref d_, .ref w_, .ref v_, .long tk])) :: (d_, .inl (cI, 8, .inl (nf dn))) :: (w_, .inl (cI, 8, .inl (nf wn))) :: (v_, .inl (cI, 8, .inl (upd (nf vn) j (nI x)))) :: R) := hD
  have hW_ : upd (nf vn) j (nI x) = nf (un vn j x) := by exact nf_upd _ _ _
  rw [hW_] at hP hD
  have hP : va_P D vwCl ((c_, .inr (2, [.ref d_, .ref w_, .ref v_, .long tk])) :: (d_, .inl (cI, 8, .inl (nf dn))) :: (w_, .inl (cI, 8, .inl (nf wn))) :: (v_, .inl (cI, 8, .inl (nf (un vn j x)))) :: R) H := hP
  have hD : va_D A ((c_, .inr (2, [.ref d_, .ref w_, .ref v_, .long tk])) :: (d_, .inl (cI, 8, .inl (nf dn))) :: (w_, .inl (cI, 8, .inl (nf wn))) :: (v_, .inl (cI, 8, .inl (nf (un vn j x)))) :: R) := hD
  refine lv_iconst (v := 1) hx hb dX1_setValue_7 (by decide) ?_
  subst hQe
  subst hAe
  subst hsz
  exact g_zret hx hb hr hlocks rfl () rfl hP hK hD hS dX1_setValue_8
abbrev rX1_setWhiteAt : Room := { frames := 1, cells := 0, slots := 0, locals := 22 }
set_option maxHeartbeats 4000000 in
set_option maxRecDepth 100000 in
theorem c_X1_setWhiteAt (l : Launch) (D : va_G) (cI cJ cG : ClassId) (sz : Nat) (R : va_W) (c_ d_ w_ v_ : Nat) (dn wn vn : Nat → Nat) (tk : Int64) (j x : Nat) (t : Int64) (hj : j < 8) : Met l yX1_setWhiteAt wsX1_setWhiteAt rX1_setWhiteAt (gP D (tyl cI cJ cG) [.ref c_, .int (nI j), .int (nI x), .long t] ((c_, .inr (2, [.ref d_, .ref w_, .ref v_, .long tk])) :: (d_, .inl (cI, 8, .inl (nf dn))) :: (w_, .inl (cI, 8, .inl (nf wn))) :: (v_, .inl (cI, 8, .inl (nf vn))) :: R) sz) (gQi D (tyl cI cJ cG) ((c_, .inr (2, [.ref d_, .ref w_, .ref v_, .long tk])) :: (d_, .inl (cI, 8, .inl (nf dn))) :: (w_, .inl (cI, 8, .inl (nf wn))) :: (v_, .inl (cI, 8, .inl (nf vn))) :: R) sz (fun r (u : (Nat → Nat) × Int64) => r = bI (decide (tk < t)) ∧ u = if tk < t then (un wn j x, t) else (wn, tk)) (fun u => ((c_, .inr (2, [.ref d_, .ref w_, .ref v_, .long u.2])) :: (d_, .inl (cI, 8, .inl (nf dn))) :: (w_, .inl (cI, 8, .inl (nf u.1))) :: (v_, .inl (cI, 8, .inl (nf vn))) :: R))) 0 0 (va_A ((c_, .inr (2, [.ref d_, .ref w_, .ref v_, .long tk])) :: (d_, .inl (cI, 8, .inl (nf dn))) :: (w_, .inl (cI, 8, .inl (nf wn))) :: (v_, .inl (cI, 8, .inl (nf vn))) :: R) sz) := by
  refine gMet (cc := cX1_setWhiteAt) (maxL := 5) (ret := (some .boolean)) (ls0 := [(0, .ref c_), (1, .int (nI j)), (2, .int (nI x)), (3, .long t)]) (by decide) rfl (Nat.le_of_ble_eq_true rfl) rfl ?_
  intro p e s m below meth c hx hb hr hts hown hlocks hml hname A hA hAe hsz Q hQe H locs hP hK hD hS ls hl
  have hown : s.vm.findClass RX1 = some m.cls := hown
  have in_X1 : ∀ w ∈ wsX10, w ∈ wsX1_setWhiteAt := by decide +kernel
  have f_27 := hts (.fieldLink RX1 27 "SpectrumHeads$Channels" "lastTick" "J") (by decide +kernel)
  refine lv_lload_n hx hb dX1_setWhiteAt_0 rfl (lv_at hl 3 rfl) ?_
  refine lv_aload_n hx hb dX1_setWhiteAt_1 rfl (lv_at hl 0 rfl) ?_
  refine va_get (D := D) (ci := 2) (v := .long tk) (C := RX1) (T := TX1) (N := 4) hx hb hts in_X1 hown hK hP 0 rfl rfl 3 (by decide) f_27 (fun _ h9 => h9) rfl dX1_setWhiteAt_2 ?_
  refine W.lcmp hx hb dX1_setWhiteAt_5 ?_
  refine lv_if_gt (tgt := 11) hx hb dX1_setWhiteAt_6 (by decide) (fun c6 => ?_) (fun c6 => ?_)
  · skip
    have ct : tk < t := (lg_cmp_gt _ _).mp c6
    refine lv_aload_n hx hb dX1_setWhiteAt_11 rfl (lv_at hl 0 rfl) ?_
    refine lv_lload_n hx hb dX1_setWhiteAt_12 rfl (lv_at hl 3 rfl) ?_
    refine va_put (D := D) (ci := 2) (v := .long t) (ty := .long) (C := RX1) (T := TX1) (N := 4) hx hb hts in_X1 tyX1 tyX1_ok nmX1 hown hK hP hD hS 0 rfl rfl 3 (by decide) f_27 (fun _ h9 => h9) rfl (by decide +kernel) rfl rfl (Nat.le_of_ble_eq_true rfl) dX1_setWhiteAt_13 (fun H locs hP hD hS => ?_)
    have hP : va_P D vwCl ((c_, .inr (2, [.ref d_, .ref w_, .ref v_, .long t])) :: (d_, .inl (cI, 8, .inl (nf dn))) :: (w_, .inl (cI, 8, .inl (nf wn))) :: (v_, .inl (cI, 8, .inl (nf vn))) :: R) H := hP
    have hD : va_D A ((c_, .inr (2, [.ref d_, .ref w_, .ref v_, .long t])) :: (d_, .inl (cI, 8, .inl (nf dn))) :: (w_, .inl (cI, 8, .inl (nf wn))) :: (v_, .inl (cI, 8, .inl (nf vn))) :: R) := hD
    refine lv_aload_n hx hb dX1_setWhiteAt_16 rfl (lv_at hl 0 rfl) ?_
    refine lv_iload_n hx hb dX1_setWhiteAt_17 rfl (lv_at hl 1 rfl) ?_
    refine lv_iload_n hx hb dX1_setWhiteAt_18 rfl (lv_at hl 2 rfl) ?_
    refine gc_Vi (As := [.int (nI j), .int (nI x)]) (rest := []) (ci := 2) (q0 := 0) ⟨hx, hb, hml, hown, hts⟩ (c_X1_setWhite l D cI cJ cG H.size R c_ d_ w_ v_ dn wn vn t j x hj) (cwV 2 hts gX1_setWhiteAt_X1_setWhite rfl rfl rfl (by decide +kernel) ⟨Nat.le_of_ble_eq_true rfl, Nat.le_of_ble_eq_true rfl⟩) rfl rfl rfl hK hP hD hS hA rfl hl.1 rfl (Nat.le_of_ble_eq_true rfl) dX1_setWhiteAt_19 ⟨Nat.le_of_ble_eq_true rfl, Nat.le_of_ble_eq_true rfl⟩ (fun r19 u19 H locs h19 hP hD hS => ?_)
    subst h19
    have hP : va_P D vwCl ((c_, .inr (2, [.ref d_, .ref w_, .ref v_, .long t])) :: (d_, .inl (cI, 8, .inl (nf dn))) :: (w_, .inl (cI, 8, .inl (nf (un wn j x)))) :: (v_, .inl (cI, 8, .inl (nf vn))) :: R) H := hP
    have hD : va_D A ((c_, .inr (2, [.ref d_, .ref w_, .ref v_, .long t])) :: (d_, .inl (cI, 8, .inl (nf dn))) :: (w_, .inl (cI, 8, .inl (nf (un wn j x)))) :: (v_, .inl (cI, 8, .inl (nf vn))) :: R) := hD
    subst hQe
    subst hAe
    subst hsz
    exact g_zret hx hb hr hlocks rfl (un wn j x, t) ⟨by simp [bI, ct], (if_pos ct).symm⟩ hP hK hD hS dX1_setWhiteAt_22
  · skip
    have ct : ¬ tk < t := fun h => c6 ((lg_cmp_gt _ _).mpr h)
    refine lv_iconst (v := 0) hx hb dX1_setWhiteAt_9 (by decide) ?_
    subst hQe
    subst hAe
    subst hsz
    exact g_zret hx hb hr hlocks rfl (wn, tk) ⟨by simp [bI, ct], (if_neg ct).symm⟩ hP hK hD hS dX1_setWhiteAt_10
abbrev rX1_evened : Room := { frames := 1, cells := 0, slots := 0, locals := 21 }
set_option maxHeartbeats 4000000 in
set_option maxRecDepth 100000 in
theorem c_X1_evened (l : Launch) (D : va_G) (cI cJ cG : ClassId) (sz : Nat) (R : va_W) (c_ d_ w_ v_ : Nat) (dn wn vn : Nat → Nat) (tk : Int64) (j : Nat) (hj : j < 8) (hd : ∀ k, dn k ≤ 255) (hw : ∀ k, wn k ≤ 255) (hv : ∀ k, vn k ≤ 255) : Met l yX1_evened wsX1_evened rX1_evened (gP D (tyl cI cJ cG) [.ref c_, .int (nI j)] ((c_, .inr (2, [.ref d_, .ref w_, .ref v_, .long tk])) :: (d_, .inl (cI, 8, .inl (nf dn))) :: (w_, .inl (cI, 8, .inl (nf wn))) :: (v_, .inl (cI, 8, .inl (nf vn))) :: R) sz) (gQi D (tyl cI cJ cG) ((c_, .inr (2, [.ref d_, .ref w_, .ref v_, .long tk])) :: (d_, .inl (cI, 8, .inl (nf dn))) :: (w_, .inl (cI, 8, .inl (nf wn))) :: (v_, .inl (cI, 8, .inl (nf vn))) :: R) sz (fun r (_ : Unit) => r = nI (evN (dn j) (wn j) (vn j))) (fun _ => ((c_, .inr (2, [.ref d_, .ref w_, .ref v_, .long tk])) :: (d_, .inl (cI, 8, .inl (nf dn))) :: (w_, .inl (cI, 8, .inl (nf wn))) :: (v_, .inl (cI, 8, .inl (nf vn))) :: R))) 0 0 (va_A ((c_, .inr (2, [.ref d_, .ref w_, .ref v_, .long tk])) :: (d_, .inl (cI, 8, .inl (nf dn))) :: (w_, .inl (cI, 8, .inl (nf wn))) :: (v_, .inl (cI, 8, .inl (nf vn))) :: R) sz) := by
  refine gMet (cc := cX1_evened) (maxL := 4) (ret := (some .int)) (ls0 := [(0, .ref c_), (1, .int (nI j))]) (by decide) rfl (Nat.le_of_ble_eq_true rfl) rfl ?_
  intro p e s m below meth c hx hb hr hts hown hlocks hml hname A hA hAe hsz Q hQe H locs hP hK hD hS ls hl
  have hown : s.vm.findClass RX1 = some m.cls := hown
  have in_X1 : ∀ w ∈ wsX10, w ∈ wsX1_evened := by decide +kernel
  have f_15 := hts (.fieldLink RX1 15 "SpectrumHeads$Channels" "whites" "[I") (by decide +kernel)
  have f_9 := hts (.fieldLink RX1 9 "SpectrumHeads$Channels" "darks" "[I") (by decide +kernel)
  have f_18 := hts (.fieldLink RX1 18 "SpectrumHeads$Channels" "values" "[I") (by decide +kernel)
  have hd1 := hd j
  have hw1 := hw j
  have hv1 := hv j
  refine lv_aload_n hx hb dX1_evened_0 rfl (lv_at hl 0 rfl) ?_
  refine va_get (D := D) (ci := 2) (v := .ref w_) (C := RX1) (T := TX1) (N := 4) hx hb hts in_X1 hown hK hP 0 rfl rfl 1 (by decide) f_15 (fun _ h9 => h9) rfl dX1_evened_1 ?_
  refine lv_iload_n hx hb dX1_evened_4 rfl (lv_at hl 1 rfl) ?_
  refine va_iald hx hb hK hP (2) 0 rfl rfl (by first | exact vp_in_nI (by omega) (by omega) | assumption) dX1_evened_5 ?_
  refine lv_topi (fun x5 ex5 => ?_)
  rw [nI_clamp (by omega)] at ex5
  obtain rfl : x5 = nI (wn j) := by exact ex5
  refine lv_aload_n hx hb dX1_evened_6 rfl (lv_at hl 0 rfl) ?_
  refine va_get (D := D) (ci := 2) (v := .ref d_) (C := RX1) (T := TX1) (N := 4) hx hb hts in_X1 hown hK hP 0 rfl rfl 0 (by decide) f_9 (fun _ h9 => h9) rfl dX1_evened_7 ?_
  refine lv_iload_n hx hb dX1_evened_10 rfl (lv_at hl 1 rfl) ?_
  refine va_iald hx hb hK hP (1) 0 rfl rfl (by first | exact vp_in_nI (by omega) (by omega) | assumption) dX1_evened_11 ?_
  refine lv_topi (fun x11 ex11 => ?_)
  rw [nI_clamp (by omega)] at ex11
  obtain rfl : x11 = nI (dn j) := by exact ex11
  refine lv_isub hx hb dX1_evened_12 ?_
  refine lv_topi (fun x12 ex12 => ?_)
  refine lv_istore_n (lv' := [(2, .int x12), (0, .ref c_), (1, .int (nI j))]) hx hb dX1_evened_13 rfl hl (by decide) rfl (fun ls hl => ?_)
  refine lv_aload_n hx hb dX1_evened_14 rfl (lv_at hl 1 rfl) ?_
  refine va_get (D := D) (ci := 2) (v := .ref v_) (C := RX1) (T := TX1) (N := 4) hx hb hts in_X1 hown hK hP 0 rfl rfl 2 (by decide) f_18 (fun _ h9 => h9) rfl dX1_evened_15 ?_
  refine lv_iload_n hx hb dX1_evened_18 rfl (lv_at hl 2 rfl) ?_
  refine va_iald hx hb hK hP (3) 0 rfl rfl (by first | exact vp_in_nI (by omega) (by omega) | assumption) dX1_evened_19 ?_
  refine lv_topi (fun x19 ex19 => ?_)
  rw [nI_clamp (by omega)] at ex19
  obtain rfl : x19 = nI (vn j) := by exact ex19
  refine lv_aload_n hx hb dX1_evened_20 rfl (lv_at hl 1 rfl) ?_
  refine va_get (D := D) (ci := 2) (v := .ref d_) (C := RX1) (T := TX1) (N := 4) hx hb hts in_X1 hown hK hP 0 rfl rfl 0 (by decide) f_9 (fun _ h9 => h9) rfl dX1_evened_21 ?_
  refine lv_iload_n hx hb dX1_evened_24 rfl (lv_at hl 2 rfl) ?_
  refine va_iald hx hb hK hP (1) 0 rfl rfl (by first | exact vp_in_nI (by omega) (by omega) | assumption) dX1_evened_25 ?_
  refine lv_topi (fun x25 ex25 => ?_)
  rw [nI_clamp (by omega)] at ex25
  obtain rfl : x25 = nI (dn j) := by exact ex25
  refine lv_isub hx hb dX1_evened_26 ?_
  refine lv_topi (fun x26 ex26 => ?_)
  refine lv_istore_n (lv' := [(3, .int x26), (2, .int x12), (0, .ref c_), (1, .int (nI j))]) hx hb dX1_evened_27 rfl hl (by decide) rfl (fun ls hl => ?_)
  refine lv_iload_n hx hb dX1_evened_28 rfl (lv_at hl 1 rfl) ?_
  refine lv_if_le (tgt := 36) hx hb dX1_evened_29 (by decide) (fun c29 => ?_) (fun c29 => ?_)
  · skip
    have c1 : wn j ≤ dn j := (sub_le0 (by omega) (by omega)).mp (ex12 ▸ c29)
    refine lv_iconst (v := 0) hx hb dX1_evened_36 (by decide) ?_
    subst hQe
    subst hAe
    subst hsz
    exact g_iret hx hb hr hlocks () (by first | (simp [evN, c1, nI_0]; done) | (simp [evN, c2, nI_0]; done)) hP hK hD hS dX1_evened_37
  · skip
    have c1 : dn j < wn j := by
      rw [ex12, sub_le0 (by omega) (by omega)] at c29; omega
    refine lv_iload_n hx hb dX1_evened_32 rfl (lv_at hl 0 rfl) ?_
    refine lv_if_gt (tgt := 38) hx hb dX1_evened_33 (by decide) (fun c33 => ?_) (fun c33 => ?_)
    · skip
      have c2 : dn j < vn j := (sub_gt0 (by omega) (by omega)).mp (ex26 ▸ c33)
      obtain rfl : x12 = nI (wn j - dn j) := by rw [ex12]; exact pk_sub (by omega)
      obtain rfl : x26 = nI (vn j - dn j) := by rw [ex26]; exact pk_sub (by omega)
      refine lv_sipush (v := 255) hx hb dX1_evened_38 (by decide) ?_
      refine lv_sipush (v := 256) hx hb dX1_evened_41 (by decide) ?_
      refine lv_iload_n hx hb dX1_evened_44 rfl (lv_at hl 0 rfl) ?_
      refine lv_imul hx hb dX1_evened_45 ?_
      refine lv_topi (fun x45 ex45 => ?_)
      obtain rfl : x45 = nI (256 * (vn j - dn j)) := by rw [ex45]; exact pk_mul 256 _
      refine lv_iload_n hx hb dX1_evened_46 rfl (lv_at hl 1 rfl) ?_
      refine lv_idiv hx hb dX1_evened_47 (nI_ne0 (by omega) (by omega)) ?_
      refine lv_topi (fun x47 ex47 => ?_)
      obtain rfl : x47 = nI (256 * (vn j - dn j) / (wn j - dn j)) := by rw [ex47]; exact pk_div (by omega) (by omega) (by omega)
      refine va_mmin hx hb (by rw [hml]; exact hl.1.symm) hown (hts (.methodLink RX1 39 Lib.Math.min.name) (by decide +kernel)) (hts (.static Lib.Math.min.name) (by decide +kernel)) (hts (.initialized "java/lang/Math") (by decide +kernel)) (hts (.code Lib.Math.min.name Lib.Math.min.code 2 (some .int)) (by decide +kernel)) (Nat.le_of_ble_eq_true rfl) (Nat.le_of_ble_eq_true rfl) (Nat.zero_le _) (Nat.zero_le _) dX1_evened_48 ?_
      refine lv_topi (fun x48 ex48 => ?_)
      subst hQe
      subst hAe
      subst hsz
      exact g_iret hx hb hr hlocks () (by rw [ex48]; exact evN_min c1 c2 (by omega)) hP hK hD hS dX1_evened_51
    · skip
      have c2 : vn j ≤ dn j := by
        rw [ex26, sub_gt0 (by omega) (by omega)] at c33; omega
      refine lv_iconst (v := 0) hx hb dX1_evened_36 (by decide) ?_
      subst hQe
      subst hAe
      subst hsz
      exact g_iret hx hb hr hlocks () (by first | (simp [evN, c1, nI_0]; done) | (simp [evN, c2, nI_0]; done)) hP hK hD hS dX1_evened_37
abbrev rX1_fillRow : Room := { frames := 2, cells := 0, slots := 0, locals := 44 }
set_option maxHeartbeats 4000000 in
set_option maxRecDepth 100000 in
theorem c_X1_fillRow (l : Launch) (D : va_G) (cI cJ cG : ClassId) (sz : Nat) (R : va_W) (c_ d_ w_ v_ : Nat) (dn wn vn : Nat → Nat) (tk : Int64) (r_ : Nat) (f : Nat → Nat) (hd : ∀ k, dn k ≤ 255) (hw : ∀ k, wn k ≤ 255) (hv : ∀ k, vn k ≤ 255) : Met l yX1_fillRow wsX1_fillRow rX1_fillRow (gP D (tyl cI cJ cG) [.ref c_, .ref r_] ((c_, .inr (2, [.ref d_, .ref w_, .ref v_, .long tk])) :: (d_, .inl (cI, 8, .inl (nf dn))) :: (w_, .inl (cI, 8, .inl (nf wn))) :: (v_, .inl (cI, 8, .inl (nf vn))) :: (r_, .inl (cI, 8, .inl (nf f))) :: R) sz) (gQv D (tyl cI cJ cG) ((c_, .inr (2, [.ref d_, .ref w_, .ref v_, .long tk])) :: (d_, .inl (cI, 8, .inl (nf dn))) :: (w_, .inl (cI, 8, .inl (nf wn))) :: (v_, .inl (cI, 8, .inl (nf vn))) :: (r_, .inl (cI, 8, .inl (nf f))) :: R) sz (fun (_ : Unit) => True) (fun _ => ((c_, .inr (2, [.ref d_, .ref w_, .ref v_, .long tk])) :: (d_, .inl (cI, 8, .inl (nf dn))) :: (w_, .inl (cI, 8, .inl (nf wn))) :: (v_, .inl (cI, 8, .inl (nf vn))) :: (r_, .inl (cI, 8, .inl (nf (fu (rwN dn wn vn) f 8)))) :: R))) 0 0 (va_A ((c_, .inr (2, [.ref d_, .ref w_, .ref v_, .long tk])) :: (d_, .inl (cI, 8, .inl (nf dn))) :: (w_, .inl (cI, 8, .inl (nf wn))) :: (v_, .inl (cI, 8, .inl (nf vn))) :: (r_, .inl (cI, 8, .inl (nf f))) :: R) sz) := by
  refine gMet (cc := cX1_fillRow) (maxL := 3) (ret := none) (ls0 := [(0, .ref c_), (1, .ref r_)]) (by decide) rfl (Nat.le_of_ble_eq_true rfl) rfl ?_
  intro p e s m below meth c hx hb hr hts hown hlocks hml hname A hA hAe hsz Q hQe H locs hP hK hD hS ls hl
  have hown : s.vm.findClass RX1 = some m.cls := hown
  rw [← fu_0 (g := rwN dn wn vn) (f := f)] at hP hD
  refine lv_iconst (v := 0) hx hb dX1_fillRow_0 (by decide) ?_
  refine lv_istore_n (lv' := [(2, .int 0), (0, .ref c_), (1, .ref r_)]) hx hb dX1_fillRow_1 rfl hl (by decide) rfl (fun ls hl => ?_)
  have L_2 : ∀ (n_2 : Nat) (i : Nat) (hi : i ≤ 8), 8 - i < n_2 → ∀ (H : Heap) (locs : List Loc) (ls : Array Slot), va_P D vwCl ((c_, .inr (2, [.ref d_, .ref w_, .ref v_, .long tk])) :: (d_, .inl (cI, 8, .inl (nf dn))) :: (w_, .inl (cI, 8, .inl (nf wn))) :: (v_, .inl (cI, 8, .inl (nf vn))) :: (r_, .inl (cI, 8, .inl (nf (fu (rwN dn wn vn) f i)))) :: R) H → va_D A ((c_, .inr (2, [.ref d_, .ref w_, .ref v_, .long tk])) :: (d_, .inl (cI, 8, .inl (nf dn))) :: (w_, .inl (cI, 8, .inl (nf wn))) :: (v_, .inl (cI, 8, .inl (nf vn))) :: (r_, .inl (cI, 8, .inl (nf (fu (rwN dn wn vn) f i)))) :: R) → va_S A s.heap H locs → lv_has ls 3 [(2, .int (nI i)), (0, .ref c_), (1, .ref r_)] → W p l e (headSpec wsX1_fillRow rX1_fillRow).room s m ([.ref c_, .ref r_] : List Value).toArray below meth c H locs 0 0 Q (F0 m 2 ls []) := by
    intro n_2
    induction n_2 with
    | zero => intro i hi hn_; exact absurd hn_ (Nat.not_lt_zero _)
    | succ n_2 ih_2 =>
      intro i hi hn_2 H locs ls hP hD hS hl
      refine lv_iload_n hx hb dX1_fillRow_2 rfl (lv_at hl 0 rfl) ?_
      refine lv_bipush (v := 8) hx hb dX1_fillRow_3 (by decide) ?_
      refine lv_icmp_ge (tgt := 22) hx hb dX1_fillRow_5 (by decide) (fun c5 => ?_) (fun c5 => ?_)
      · skip
        have hi8 := lp_e (n := 8) c5 hi
        subst hi8
        subst hQe
        subst hAe
        subst hsz
        exact g_vret hx hb hr hlocks () trivial hP hK hD hS dX1_fillRow_22
      · skip
        have hi8 := lp_l (n := 8) c5 hi
        refine lv_aload_n hx hb dX1_fillRow_8 rfl (lv_at hl 2 rfl) ?_
        refine lv_iload_n hx hb dX1_fillRow_9 rfl (lv_at hl 0 rfl) ?_
        refine lv_aload_n hx hb dX1_fillRow_10 rfl (lv_at hl 1 rfl) ?_
        refine lv_iload_n hx hb dX1_fillRow_11 rfl (lv_at hl 0 rfl) ?_
        refine gc_Vi (As := [.int (nI i)]) (rest := [.int (nI i), .ref r_]) (ci := 2) (q0 := 0) ⟨hx, hb, hml, hown, hts⟩ (c_X1_evened l D cI cJ cG H.size ((r_, .inl (cI, 8, .inl (nf (fu (rwN dn wn vn) f i)))) :: R) c_ d_ w_ v_ dn wn vn tk i hi8 hd hw hv) (cwV 1 hts gX1_fillRow_X1_evened rfl rfl rfl (by decide +kernel) ⟨Nat.le_of_ble_eq_true rfl, Nat.le_of_ble_eq_true rfl⟩) rfl rfl rfl hK hP hD hS hA rfl hl.1 rfl (Nat.le_of_ble_eq_true rfl) dX1_fillRow_12 ⟨Nat.le_of_ble_eq_true rfl, Nat.le_of_ble_eq_true rfl⟩ (fun r12 u12 H locs h12 hP hD hS => ?_)
        subst h12
        have hP : va_P D vwCl ((c_, .inr (2, [.ref d_, .ref w_, .ref v_, .long tk])) :: (d_, .inl (cI, 8, .inl (nf dn))) :: (w_, .inl (cI, 8, .inl (nf wn))) :: (v_, .inl (cI, 8, .inl (nf vn))) :: (r_, .inl (cI, 8, .inl (nf (fu (rwN dn wn vn) f i)))) :: R) H := hP
        have hD : va_D A ((c_, .inr (2, [.ref d_, .ref w_, .ref v_, .long tk])) :: (d_, .inl (cI, 8, .inl (nf dn))) :: (w_, .inl (cI, 8, .inl (nf wn))) :: (v_, .inl (cI, 8, .inl (nf vn))) :: (r_, .inl (cI, 8, .inl (nf (fu (rwN dn wn vn) f i)))) :: R) := hD
        refine va_iast hx hb hK hP hD hS 4 0 rfl rfl (by first | exact vp_in_nI (by omega) (by omega) | assumption) dX1_fillRow_15 (fun H locs hP hD hS => ?_)
        rw [nI_clamp (by omega)] at hP hD
        have hP : va_P D vwCl ((c_, .inr (2, [.ref d_, .ref w_, .ref v_, .long tk])) :: (d_, .inl (cI, 8, .inl (nf dn))) :: (w_, .inl (cI, 8, .inl (nf wn))) :: (v_, .inl (cI, 8, .inl (nf vn))) :: (r_, .inl (cI, 8, .inl (upd (nf (fu (rwN dn wn vn) f i)) i (nI (evN (dn i) (wn i) (vn i)))))) :: R) H := hP
        have hD : va_D A ((c_, .inr (2, [.ref d_, .ref w_, .ref v_, .long tk])) :: (d_, .inl (cI, 8, .inl (nf dn))) :: (w_, .inl (cI, 8, .inl (nf wn))) :: (v_, .inl (cI, 8, .inl (nf vn))) :: (r_, .inl (cI, 8, .inl (upd (nf (fu (rwN dn wn vn) f i)) i (nI (evN (dn i) (wn i) (vn i)))))) :: R) := hD
        have hW_ : upd (nf (fu (rwN dn wn vn) f i)) i (nI (evN (dn i) (wn i) (vn i))) = nf (fu (rwN dn wn vn) f (i + 1)) := by rw [nf_upd]; exact congrArg nf fu_s
        rw [hW_] at hP hD
        have hP : va_P D vwCl ((c_, .inr (2, [.ref d_, .ref w_, .ref v_, .long tk])) :: (d_, .inl (cI, 8, .inl (nf dn))) :: (w_, .inl (cI, 8, .inl (nf wn))) :: (v_, .inl (cI, 8, .inl (nf vn))) :: (r_, .inl (cI, 8, .inl (nf (fu (rwN dn wn vn) f (i + 1))))) :: R) H := hP
        have hD : va_D A ((c_, .inr (2, [.ref d_, .ref w_, .ref v_, .long tk])) :: (d_, .inl (cI, 8, .inl (nf dn))) :: (w_, .inl (cI, 8, .inl (nf wn))) :: (v_, .inl (cI, 8, .inl (nf vn))) :: (r_, .inl (cI, 8, .inl (nf (fu (rwN dn wn vn) f (i + 1))))) :: R) := hD
        obtain ⟨x16, ex16⟩ : ∃ y : Int32, y = (nI i) + 1 := ⟨_, rfl⟩
        refine lv_iinc (v := x16) (lv' := [(2, .int x16), (0, .ref c_), (1, .ref r_)]) hx hb dX1_fillRow_16 hl (k := 0) rfl (by rw [ex16]; rfl) (by decide) rfl (fun ls hl => ?_)
        obtain rfl : x16 = nI (i + 1) := by rw [ex16]; exact nI_1 _
        refine lv_goto (tgt := 2) hx hb dX1_fillRow_19 (by decide) ?_
        exact ih_2 (i + 1) (by omega) (by omega) H locs ls hP hD hS (lv_sub hl [0, 1, 2] rfl)
  exact L_2 _ 0 (Nat.zero_le _) (Nat.lt_succ_self _) H locs ls hP hD hS (lv_sub hl [0, 1, 2] rfl)
