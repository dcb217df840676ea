theorem pm_1_0_2_3_P {D : va_G} {cl : List vw_C} {H : Heap} {x0 x1 x2 x3 : Nat × va_E} {T : va_W} (h : va_P D cl (x0 :: x1 :: x2 :: x3 :: T) H) : va_P D cl (x1 :: x0 :: x2 :: x3 :: T) H := va_P.part (X := [x0, x1, x2, x3]) (pl := T) (cx := [x1, x0, x2, x3]) h [1, 0, 2, 3] rfl
theorem pm_1_0_2_3_D {A : Nat → Prop} {x0 x1 x2 x3 : Nat × va_E} {T : va_W} (h : va_D A (x0 :: x1 :: x2 :: x3 :: T)) : va_D A (x1 :: x0 :: x2 :: x3 :: T) := va_D.part (X := [x0, x1, x2, x3]) (pl := T) (cx := [x1, x0, x2, x3]) h [1, 0, 2, 3] (by decide) rfl
theorem pm_3_2_1_0_P {D : va_G} {cl : List vw_C} {H : Heap} {x0 x1 x2 x3 : Nat × va_E} {T : va_W} (h : va_P D cl (x0 :: x1 :: x2 :: x3 :: T) H) : va_P D cl (x3 :: x2 :: x1 :: x0 :: T) H := va_P.part (X := [x0, x1, x2, x3]) (pl := T) (cx := [x3, x2, x1, x0]) h [3, 2, 1, 0] rfl
theorem pm_3_2_1_0_D {A : Nat → Prop} {x0 x1 x2 x3 : Nat × va_E} {T : va_W} (h : va_D A (x0 :: x1 :: x2 :: x3 :: T)) : va_D A (x3 :: x2 :: x1 :: x0 :: T) := va_D.part (X := [x0, x1, x2, x3]) (pl := T) (cx := [x3, x2, x1, x0]) h [3, 2, 1, 0] (by decide) rfl
abbrev rX1_init : Room := { frames := 1, cells := 3, slots := 24, locals := 23 }
set_option maxHeartbeats 4000000 in
set_option maxRecDepth 100000 in
theorem c_X1_init (l : Launch) (D : va_G) (cI cJ cG : ClassId) (sz : Nat) (R : va_W) (c_ : Nat) : Met l yX1_init wsX1_init rX1_init (gP D (tyl cI cJ cG) [.ref c_] ((c_, .inr (2, [.null, .null, .null, .long 0])) :: R) sz) (gQv D (tyl cI cJ cG) ((c_, .inr (2, [.null, .null, .null, .long 0])) :: R) sz (fun (_ : Nat × Nat × Nat) => True) (fun u => ((c_, .inr (2, [.ref u.1, .ref u.2.1, .ref u.2.2, .long 0])) :: (u.1, .inl (cI, 8, .inl (nf (fun _ => 0)))) :: (u.2.1, .inl (cI, 8, .inl (nf (fun _ => 255)))) :: (u.2.2, .inl (cI, 8, .inl (nf (fun _ => 0)))) :: R))) 3 24 (va_A ((c_, .inr (2, [.null, .null, .null, .long 0])) :: R) sz) := by
  refine gMet (cc := cX1_init) (maxL := 1) (ret := none) (ls0 := [(0, .ref c_)]) (by decide) rfl (Nat.le_of_ble_eq_true rfl) rfl ?_
  intro p e s m below meth c hx hb hr hts hown hlocks hml hname A hA hAe hsz Q hQe H locs hP hK hD hS ls hl
  have hown : s.vm.findClass RX1 = some m.cls := hown
  have in_X1 : ∀ w ∈ wsX10, w ∈ wsX1_init := by decide +kernel
  have f_9 := hts (.fieldLink RX1 9 "SpectrumHeads$Channels" "darks" "[I") (by decide +kernel)
  have f_15 := hts (.fieldLink RX1 15 "SpectrumHeads$Channels" "whites" "[I") (by decide +kernel)
  have f_18 := hts (.fieldLink RX1 18 "SpectrumHeads$Channels" "values" "[I") (by decide +kernel)
  have f_27 := hts (.fieldLink RX1 27 "SpectrumHeads$Channels" "lastTick" "J") (by decide +kernel)
  refine lv_aload_n hx hb dX1_init_0 rfl (lv_at hl 0 rfl) ?_
  refine W.objInit hx hb hown (hts (.methodLink RX1 3 objectInit) (by decide +kernel)) (hts (.instanceMethod objectInit) (by decide +kernel)) (hts (.code objectInit ⟨#[0xb1]⟩ 1 none) (by decide +kernel)) rfl (by rw [hml]; exact hl.1) rfl dX1_init_1 (Nat.le_of_ble_eq_true rfl) (Nat.le_of_ble_eq_true rfl) ?_
  refine W.eq (g2 := F0 m 4 ls []) rfl ?_
  refine lv_aload_n hx hb dX1_init_4 rfl (lv_at hl 0 rfl) ?_
  refine lv_bipush (v := 8) hx hb dX1_init_5 (by decide) ?_
  refine g_newI hx hb (hts (.arrayClass .int) (by decide +kernel)) hK hP hD hS hA 8 rfl (by omega) (Nat.le_of_ble_eq_true rfl) (Nat.le_of_ble_eq_true rfl) dX1_init_7 (fun q7 H hP hD hS => ?_)
  refine va_putF (D := D) (ci := 2) (v := .ref q7) (ty := (.array .int)) (C := RX1) (T := TX1) (N := 4) hx hb hts in_X1 tyX1 tyX1_ok nmX1 hown hK hP hD hS 1 rfl rfl 0 (by decide) f_9 (fun _ h9 => h9) rfl hname rfl (by decide +kernel) rfl rfl (Nat.le_of_ble_eq_true rfl) dX1_init_9 (fun H locs hP hD hS => ?_)
  have hP : va_P D vwCl ((q7, .inl (cI, 8, .inl (nf (fun _ => 0)))) :: (c_, .inr (2, [.ref q7, .null, .null, .long 0])) :: R) H := hP
  have hD : va_D A ((q7, .inl (cI, 8, .inl (nf (fun _ => 0)))) :: (c_, .inr (2, [.ref q7, .null, .null, .long 0])) :: R) := hD
  refine lv_aload_n hx hb dX1_init_12 rfl (lv_at hl 0 rfl) ?_
  refine lv_bipush (v := 8) hx hb dX1_init_13 (by decide) ?_
  refine g_newI hx hb (hts (.arrayClass .int) (by decide +kernel)) hK hP hD hS hA 8 rfl (by omega) (Nat.le_of_ble_eq_true rfl) (Nat.le_of_ble_eq_true rfl) dX1_init_15 (fun q15 H hP hD hS => ?_)
  refine va_putF (D := D) (ci := 2) (v := .ref q15) (ty := (.array .int)) (C := RX1) (T := TX1) (N := 4) hx hb hts in_X1 tyX1 tyX1_ok nmX1 hown hK hP hD hS 2 rfl rfl 1 (by decide) f_15 (fun _ h9 => h9) rfl hname rfl (by decide +kernel) rfl rfl (Nat.le_of_ble_eq_true rfl) dX1_init_17 (fun H locs hP hD hS => ?_)
  have hP : va_P D vwCl ((q15, .inl (cI, 8, .inl (nf (fun _ => 0)))) :: (q7, .inl (cI, 8, .inl (nf (fun _ => 0)))) :: (c_, .inr (2, [.ref q7, .ref q15, .null, .long 0])) :: R) H := hP
  have hD : va_D A ((q15, .inl (cI, 8, .inl (nf (fun _ => 0)))) :: (q7, .inl (cI, 8, .inl (nf (fun _ => 0)))) :: (c_, .inr (2, [.ref q7, .ref q15, .null, .long 0])) :: R) := hD
  refine lv_aload_n hx hb dX1_init_20 rfl (lv_at hl 0 rfl) ?_
  refine lv_bipush (v := 8) hx hb dX1_init_21 (by decide) ?_
  refine g_newI hx hb (hts (.arrayClass .int) (by decide +kernel)) hK hP hD hS hA 8 rfl (by omega) (Nat.le_of_ble_eq_true rfl) (Nat.le_of_ble_eq_true rfl) dX1_init_23 (fun q23 H hP hD hS => ?_)
  refine va_putF (D := D) (ci := 2) (v := .ref q23) (ty := (.array .int)) (C := RX1) (T := TX1) (N := 4) hx hb hts in_X1 tyX1 tyX1_ok nmX1 hown hK hP hD hS 3 rfl rfl 2 (by decide) f_18 (fun _ h9 => h9) rfl hname rfl (by decide +kernel) rfl rfl (Nat.le_of_ble_eq_true rfl) dX1_init_25 (fun H locs hP hD hS => ?_)
  have hP : va_P D vwCl ((q23, .inl (cI, 8, .inl (nf (fun _ => 0)))) :: (q15, .inl (cI, 8, .inl (nf (fun _ => 0)))) :: (q7, .inl (cI, 8, .inl (nf (fun _ => 0)))) :: (c_, .inr (2, [.ref q7, .ref q15, .ref q23, .long 0])) :: R) H := hP
  have hD : va_D A ((q23, .inl (cI, 8, .inl (nf (fun _ => 0)))) :: (q15, .inl (cI, 8, .inl (nf (fun _ => 0)))) :: (q7, .inl (cI, 8, .inl (nf (fun _ => 0)))) :: (c_, .inr (2, [.ref q7, .ref q15, .ref q23, .long 0])) :: R) := hD
  refine lv_aload_n hx hb dX1_init_28 rfl (lv_at hl 0 rfl) ?_
  refine va_get (D := D) (ci := 2) (v := .ref q15) (C := RX1) (T := TX1) (N := 4) hx hb hts in_X1 hown hK hP 3 rfl rfl 1 (by decide) f_15 (fun _ h9 => h9) rfl dX1_init_29 ?_
  refine lv_sipush (v := 255) hx hb dX1_init_32 (by decide) ?_
  have hP := pm_1_0_2_3_P hP
  have hD := pm_1_0_2_3_D hD
  refine gc_Sv (As := [.ref q15, .int 255]) (rest := []) ⟨hx, hb, hml, hown, hts⟩ (c_J7_fill_53178 l D cI cJ cG H.size _ q15 8 (nf (fun _ => 0)) 255 (by omega)) (va_cwS 2 hts gX1_init_J7_fill_53178 rfl rfl rfl (by decide +kernel) ⟨Nat.le_of_ble_eq_true rfl, Nat.le_of_ble_eq_true rfl⟩) hK hP hD hS hA rfl hl.1 rfl (Nat.le_of_ble_eq_true rfl) dX1_init_35 ⟨Nat.le_of_ble_eq_true rfl, Nat.le_of_ble_eq_true rfl⟩ (fun u35 H locs h35 hP hD hS => ?_)
  have hP : va_P D vwCl ((q15, .inl (cI, 8, .inl (fu (fun _ => (255 : Int32)) (nf (fun _ => 0)) 8))) :: (q23, .inl (cI, 8, .inl (nf (fun _ => 0)))) :: (q7, .inl (cI, 8, .inl (nf (fun _ => 0)))) :: (c_, .inr (2, [.ref q7, .ref q15, .ref q23, .long 0])) :: R) H := hP
  have hD : va_D A ((q15, .inl (cI, 8, .inl (fu (fun _ => (255 : Int32)) (nf (fun _ => 0)) 8))) :: (q23, .inl (cI, 8, .inl (nf (fun _ => 0)))) :: (q7, .inl (cI, 8, .inl (nf (fun _ => 0)))) :: (c_, .inr (2, [.ref q7, .ref q15, .ref q23, .long 0])) :: R) := hD
  have hP := g_exP (g := nf (fun _ => 255)) hP (fun j hj => fil_255 hj)
  have hD := g_exD (g := nf (fun _ => 255)) hD
  have hP := pm_1_0_2_3_P hP
  have hD := pm_1_0_2_3_D hD
  have hP : va_P D vwCl ((q23, .inl (cI, 8, .inl (nf (fun _ => 0)))) :: (q15, .inl (cI, 8, .inl (nf (fun _ => 255)))) :: (q7, .inl (cI, 8, .inl (nf (fun _ => 0)))) :: (c_, .inr (2, [.ref q7, .ref q15, .ref q23, .long 0])) :: R) H := hP
  have hD : va_D A ((q23, .inl (cI, 8, .inl (nf (fun _ => 0)))) :: (q15, .inl (cI, 8, .inl (nf (fun _ => 255)))) :: (q7, .inl (cI, 8, .inl (nf (fun _ => 0)))) :: (c_, .inr (2, [.ref q7, .ref q15, .ref q23, .long 0])) :: R) := hD
  refine lv_aload_n hx hb dX1_init_38 rfl (lv_at hl 0 rfl) ?_
  refine lv_lconst (v := 0) hx hb dX1_init_39 (by decide) ?_
  refine va_put (D := D) (ci := 2) (v := .long 0) (ty := .long) (C := RX1) (T := TX1) (N := 4) hx hb hts in_X1 tyX1 tyX1_ok nmX1 hown hK hP hD hS 3 rfl rfl 3 (by decide) f_27 (fun _ h9 => h9) rfl (by decide +kernel) rfl rfl (Nat.le_of_ble_eq_true rfl) dX1_init_40 (fun H locs hP hD hS => ?_)
  have hP : va_P D vwCl ((q23, .inl (cI, 8, .inl (nf (fun _ => 0)))) :: (q15, .inl (cI, 8, .inl (nf (fun _ => 255)))) :: (q7, .inl (cI, 8, .inl (nf (fun _ => 0)))) :: (c_, .inr (2, [.ref q7, .ref q15, .ref q23, .long 0])) :: R) H := hP
  have hD : va_D A ((q23, .inl (cI, 8, .inl (nf (fun _ => 0)))) :: (q15, .inl (cI, 8, .inl (nf (fun _ => 255)))) :: (q7, .inl (cI, 8, .inl (nf (fun _ => 0)))) :: (c_, .inr (2, [.ref q7, .ref q15, .ref q23, .long 0])) :: R) := hD
  have hP := pm_3_2_1_0_P hP
  have hD := pm_3_2_1_0_D hD
  subst hQe
  subst hAe
  subst hsz
  exact g_vret hx hb hr hlocks (q7, q15, q23) trivial hP hK hD hS dX1_init_43
theorem pm_3_0_1_2_4_P {D : va_G} {cl : List vw_C} {H : Heap} {x0 x1 x2 x3 x4 : Nat × va_E} {T : va_W} (h : va_P D cl (x0 :: x1 :: x2 :: x3 :: x4 :: T) H) : va_P D cl (x3 :: x0 :: x1 :: x2 :: x4 :: T) H := va_P.part (X := [x0, x1, x2, x3, x4]) (pl := T) (cx := [x3, x0, x1, x2, x4]) h [3, 0, 1, 2, 4] rfl
theorem pm_3_0_1_2_4_D {A : Nat → Prop} {x0 x1 x2 x3 x4 : Nat × va_E} {T : va_W} (h : va_D A (x0 :: x1 :: x2 :: x3 :: x4 :: T)) : va_D A (x3 :: x0 :: x1 :: x2 :: x4 :: T) := va_D.part (X := [x0, x1, x2, x3, x4]) (pl := T) (cx := [x3, x0, x1, x2, x4]) h [3, 0, 1, 2, 4] (by decide) rfl
theorem pm_1_2_3_0_4_P {D : va_G} {cl : List vw_C} {H : Heap} {x0 x1 x2 x3 x4 : Nat × va_E} {T : va_W} (h : va_P D cl (x0 :: x1 :: x2 :: x3 :: x4 :: T) H) : va_P D cl (x1 :: x2 :: x3 :: x0 :: x4 :: T) H := va_P.part (X := [x0, x1, x2, x3, x4]) (pl := T) (cx := [x1, x2, x3, x0, x4]) h [1, 2, 3, 0, 4] rfl
theorem pm_1_2_3_0_4_D {A : Nat → Prop} {x0 x1 x2 x3 x4 : Nat × va_E} {T : va_W} (h : va_D A (x0 :: x1 :: x2 :: x3 :: x4 :: T)) : va_D A (x1 :: x2 :: x3 :: x0 :: x4 :: T) := va_D.part (X := [x0, x1, x2, x3, x4]) (pl := T) (cx := [x1, x2, x3, x0, x4]) h [1, 2, 3, 0, 4] (by decide) rfl
theorem pm_4_3_2_1_0_P {D : va_G} {cl : List vw_C} {H : Heap} {x0 x1 x2 x3 x4 : Nat × va_E} {T : va_W} (h : va_P D cl (x0 :: x1 :: x2 :: x3 :: x4 :: T) H) : va_P D cl (x4 :: x3 :: x2 :: x1 :: x0 :: T) H := va_P.part (X := [x0, x1, x2, x3, x4]) (pl := T) (cx := [x4, x3, x2, x1, x0]) h [4, 3, 2, 1, 0] rfl
theorem pm_4_3_2_1_0_D {A : Nat → Prop} {x0 x1 x2 x3 x4 : Nat × va_E} {T : va_W} (h : va_D A (x0 :: x1 :: x2 :: x3 :: x4 :: T)) : va_D A (x4 :: x3 :: x2 :: x1 :: x0 :: T) := va_D.part (X := [x0, x1, x2, x3, x4]) (pl := T) (cx := [x4, x3, x2, x1, x0]) h [4, 3, 2, 1, 0] (by decide) rfl
abbrev rX0_init : Room := { frames := 1, cells := 4, slots := 712, locals := 23 }
set_option maxHeartbeats 4000000 in
set_option maxRecDepth 100000 in
theorem c_X0_init (l : Launch) (D : va_G) (cI cJ cG : ClassId) (sz : Nat) (R : va_W) (b_ : Nat) : Met l yX0_init wsX0_init rX0_init (gP D (tyl cI cJ cG) [.ref b_] ((b_, .inr (1, [.null, .null, .null, .null, .int 0, .int 0, .int 0])) :: R) sz) (gQv D (tyl cI cJ cG) ((b_, .inr (1, [.null, .null, .null, .null, .int 0, .int 0, .int 0])) :: R) sz (fun (_ : Nat × Nat × Nat × Nat) => True) (fun u => ((b_, .inr (1, [.ref u.1, .ref u.2.1, .ref u.2.2.1, .ref u.2.2.2, .int 0, .int 0, .int 0])) :: (u.1, .inl (cI, 256, .inl (k2 (fun _ => 0)))) :: (u.2.1, .inl (cI, 256, .inl (l1 (fun _ => 0)))) :: (u.2.2.1, .inl (cI, 100, .inl (nf (fun _ => 0)))) :: (u.2.2.2, .inl (cI, 100, .inl (nf (fun _ => 0)))) :: R))) 4 712 (va_A ((b_, .inr (1, [.null, .null, .null, .null, .int 0, .int 0, .int 0])) :: R) sz) := by
  refine gMet (cc := cX0_init) (maxL := 1) (ret := none) (ls0 := [(0, .ref b_)]) (by decide) rfl (Nat.le_of_ble_eq_true rfl) rfl ?_
  intro p e s m below meth c hx hb hr hts hown hlocks hml hname A hA hAe hsz Q hQe H locs hP hK hD hS ls hl
  have hown : s.vm.findClass RX0 = some m.cls := hown
  have in_X0 : ∀ w ∈ wsX00, w ∈ wsX0_init := by decide +kernel
  have f_11 := hts (.fieldLink RX0 11 "SpectrumHeads$Belt" "kindAt" "[I") (by decide +kernel)
  have f_15 := hts (.fieldLink RX0 15 "SpectrumHeads$Belt" "numberAt" "[I") (by decide +kernel)
  have f_18 := hts (.fieldLink RX0 18 "SpectrumHeads$Belt" "joined" "[I") (by decide +kernel)
  have f_21 := hts (.fieldLink RX0 21 "SpectrumHeads$Belt" "met" "[I") (by decide +kernel)
  have f_30 := hts (.fieldLink RX0 30 "SpectrumHeads$Belt" "joinedCount" "I") (by decide +kernel)
  have f_34 := hts (.fieldLink RX0 34 "SpectrumHeads$Belt" "pixels" "I") (by decide +kernel)
  have f_37 := hts (.fieldLink RX0 37 "SpectrumHeads$Belt" "pieces" "I") (by decide +kernel)
  refine lv_aload_n hx hb dX0_init_0 rfl (lv_at hl 0 rfl) ?_
  refine W.objInit hx hb hown (hts (.methodLink RX0 3 objectInit) (by decide +kernel)) (hts (.instanceMethod objectInit) (by decide +kernel)) (hts (.code objectInit ⟨#[0xb1]⟩ 1 none) (by decide +kernel)) rfl (by rw [hml]; exact hl.1) rfl dX0_init_1 (Nat.le_of_ble_eq_true rfl) (Nat.le_of_ble_eq_true rfl) ?_
  refine W.eq (g2 := F0 m 4 ls []) rfl ?_
  refine lv_aload_n hx hb dX0_init_4 rfl (lv_at hl 0 rfl) ?_
  refine lv_sipush (v := 256) hx hb dX0_init_5 (by decide) ?_
  refine g_newI hx hb (hts (.arrayClass .int) (by decide +kernel)) hK hP hD hS hA 256 rfl (by omega) (Nat.le_of_ble_eq_true rfl) (Nat.le_of_ble_eq_true rfl) dX0_init_8 (fun q8 H hP hD hS => ?_)
  refine va_putF (D := D) (ci := 1) (v := .ref q8) (ty := (.array .int)) (C := RX0) (T := TX0) (N := 7) hx hb hts in_X0 tyX0 tyX0_ok nmX0 hown hK hP hD hS 1 rfl rfl 0 (by decide) f_11 (fun _ h9 => h9) rfl hname rfl (by decide +kernel) rfl rfl (Nat.le_of_ble_eq_true rfl) dX0_init_10 (fun H locs hP hD hS => ?_)
  have hP : va_P D vwCl ((q8, .inl (cI, 256, .inl (nf (fun _ => 0)))) :: (b_, .inr (1, [.ref q8, .null, .null, .null, .int 0, .int 0, .int 0])) :: R) H := hP
  have hD : va_D A ((q8, .inl (cI, 256, .inl (nf (fun _ => 0)))) :: (b_, .inr (1, [.ref q8, .null, .null, .null, .int 0, .int 0, .int 0])) :: R) := hD
  refine lv_aload_n hx hb dX0_init_13 rfl (lv_at hl 0 rfl) ?_
  refine lv_sipush (v := 256) hx hb dX0_init_14 (by decide) ?_
  refine g_newI hx hb (hts (.arrayClass .int) (by decide +kernel)) hK hP hD hS hA 256 rfl (by omega) (Nat.le_of_ble_eq_true rfl) (Nat.le_of_ble_eq_true rfl) dX0_init_17 (fun q17 H hP hD hS => ?_)
  refine va_putF (D := D) (ci := 1) (v := .ref q17) (ty := (.array .int)) (C := RX0) (T := TX0) (N := 7) hx hb hts in_X0 tyX0 tyX0_ok nmX0 hown hK hP hD hS 2 rfl rfl 1 (by decide) f_15 (fun _ h9 => h9) rfl hname rfl (by decide +kernel) rfl rfl (Nat.le_of_ble_eq_true rfl) dX0_init_19 (fun H locs hP hD hS => ?_)
  have hP : va_P D vwCl ((q17, .inl (cI, 256, .inl (nf (fun _ => 0)))) :: (q8, .inl (cI, 256, .inl (nf (fun _ => 0)))) :: (b_, .inr (1, [.ref q8, .ref q17, .null, .null, .int 0, .int 0, .int 0])) :: R) H := hP
  have hD : va_D A ((q17, .inl (cI, 256, .inl (nf (fun _ => 0)))) :: (q8, .inl (cI, 256, .inl (nf (fun _ => 0)))) :: (b_, .inr (1, [.ref q8, .ref q17, .null, .null, .int 0, .int 0, .int 0])) :: R) := hD
  refine lv_aload_n hx hb dX0_init_22 rfl (lv_at hl 0 rfl) ?_
  refine lv_bipush (v := 100) hx hb dX0_init_23 (by decide) ?_
  refine g_newI hx hb (hts (.arrayClass .int) (by decide +kernel)) hK hP hD hS hA 100 rfl (by omega) (Nat.le_of_ble_eq_true rfl) (Nat.le_of_ble_eq_true rfl) dX0_init_25 (fun q25 H hP hD hS => ?_)
  refine va_putF (D := D) (ci := 1) (v := .ref q25) (ty := (.array .int)) (C := RX0) (T := TX0) (N := 7) hx hb hts in_X0 tyX0 tyX0_ok nmX0 hown hK hP hD hS 3 rfl rfl 2 (by decide) f_18 (fun _ h9 => h9) rfl hname rfl (by decide +kernel) rfl rfl (Nat.le_of_ble_eq_true rfl) dX0_init_27 (fun H locs hP hD hS => ?_)
  have hP : va_P D vwCl ((q25, .inl (cI, 100, .inl (nf (fun _ => 0)))) :: (q17, .inl (cI, 256, .inl (nf (fun _ => 0)))) :: (q8, .inl (cI, 256, .inl (nf (fun _ => 0)))) :: (b_, .inr (1, [.ref q8, .ref q17, .ref q25, .null, .int 0, .int 0, .int 0])) :: R) H := hP
  have hD : va_D A ((q25, .inl (cI, 100, .inl (nf (fun _ => 0)))) :: (q17, .inl (cI, 256, .inl (nf (fun _ => 0)))) :: (q8, .inl (cI, 256, .inl (nf (fun _ => 0)))) :: (b_, .inr (1, [.ref q8, .ref q17, .ref q25, .null, .int 0, .int 0, .int 0])) :: R) := hD
  refine lv_aload_n hx hb dX0_init_30 rfl (lv_at hl 0 rfl) ?_
  refine lv_bipush (v := 100) hx hb dX0_init_31 (by decide) ?_
  refine g_newI hx hb (hts (.arrayClass .int) (by decide +kernel)) hK hP hD hS hA 100 rfl (by omega) (Nat.le_of_ble_eq_true rfl) (Nat.le_of_ble_eq_true rfl) dX0_init_33 (fun q33 H hP hD hS => ?_)
  refine va_putF (D := D) (ci := 1) (v := .ref q33) (ty := (.array .int)) (C := RX0) (T := TX0) (N := 7) hx hb hts in_X0 tyX0 tyX0_ok nmX0 hown hK hP hD hS 4 rfl rfl 3 (by decide) f_21 (fun _ h9 => h9) rfl hname rfl (by decide +kernel) rfl rfl (Nat.le_of_ble_eq_true rfl) dX0_init_35 (fun H locs hP hD hS => ?_)
  have hP : va_P D vwCl ((q33, .inl (cI, 100, .inl (nf (fun _ => 0)))) :: (q25, .inl (cI, 100, .inl (nf (fun _ => 0)))) :: (q17, .inl (cI, 256, .inl (nf (fun _ => 0)))) :: (q8, .inl (cI, 256, .inl (nf (fun _ => 0)))) :: (b_, .inr (1, [.ref q8, .ref q17, .ref q25, .ref q33, .int 0, .int 0, .int 0])) :: R) H := hP
  have hD : va_D A ((q33, .inl (cI, 100, .inl (nf (fun _ => 0)))) :: (q25, .inl (cI, 100, .inl (nf (fun _ => 0)))) :: (q17, .inl (cI, 256, .inl (nf (fun _ => 0)))) :: (q8, .inl (cI, 256, .inl (nf (fun _ => 0)))) :: (b_, .inr (1, [.ref q8, .ref q17, .ref q25, .ref q33, .int 0, .int 0, .int 0])) :: R) := hD
  refine lv_aload_n hx hb dX0_init_38 rfl (lv_at hl 0 rfl) ?_
  refine va_get (D := D) (ci := 1) (v := .ref q8) (C := RX0) (T := TX0) (N := 7) hx hb hts in_X0 hown hK hP 4 rfl rfl 0 (by decide) f_11 (fun _ h9 => h9) rfl dX0_init_39 ?_
  refine lv_bipush (v := -2) hx hb dX0_init_42 (by decide) ?_
  have hP := pm_3_0_1_2_4_P hP
  have hD := pm_3_0_1_2_4_D hD
  refine gc_Sv (As := [.ref q8, .int (-2)]) (rest := []) ⟨hx, hb, hml, hown, hts⟩ (c_J7_fill_53178 l D cI cJ cG H.size _ q8 256 (nf (fun _ => 0)) (-2) (by omega)) (va_cwS 2 hts gX0_init_J7_fill_53178 rfl rfl rfl (by decide +kernel) ⟨Nat.le_of_ble_eq_true rfl, Nat.le_of_ble_eq_true rfl⟩) hK hP hD hS hA rfl hl.1 rfl (Nat.le_of_ble_eq_true rfl) dX0_init_44 ⟨Nat.le_of_ble_eq_true rfl, Nat.le_of_ble_eq_true rfl⟩ (fun u44 H locs h44 hP hD hS => ?_)
  have hP : va_P D vwCl ((q8, .inl (cI, 256, .inl (fu (fun _ => ((-2) : Int32)) (nf (fun _ => 0)) 256))) :: (q33, .inl (cI, 100, .inl (nf (fun _ => 0)))) :: (q25, .inl (cI, 100, .inl (nf (fun _ => 0)))) :: (q17, .inl (cI, 256, .inl (nf (fun _ => 0)))) :: (b_, .inr (1, [.ref q8, .ref q17, .ref q25, .ref q33, .int 0, .int 0, .int 0])) :: R) H := hP
  have hD : va_D A ((q8, .inl (cI, 256, .inl (fu (fun _ => ((-2) : Int32)) (nf (fun _ => 0)) 256))) :: (q33, .inl (cI, 100, .inl (nf (fun _ => 0)))) :: (q25, .inl (cI, 100, .inl (nf (fun _ => 0)))) :: (q17, .inl (cI, 256, .inl (nf (fun _ => 0)))) :: (b_, .inr (1, [.ref q8, .ref q17, .ref q25, .ref q33, .int 0, .int 0, .int 0])) :: R) := hD
  have hP := g_exP (g := k2 (fun _ => 0)) hP (fun j hj => fil_m2 hj)
  have hD := g_exD (g := k2 (fun _ => 0)) hD
  have hP := pm_1_2_3_0_4_P hP
  have hD := pm_1_2_3_0_4_D hD
  have hP : va_P D vwCl ((q33, .inl (cI, 100, .inl (nf (fun _ => 0)))) :: (q25, .inl (cI, 100, .inl (nf (fun _ => 0)))) :: (q17, .inl (cI, 256, .inl (nf (fun _ => 0)))) :: (q8, .inl (cI, 256, .inl (k2 (fun _ => 0)))) :: (b_, .inr (1, [.ref q8, .ref q17, .ref q25, .ref q33, .int 0, .int 0, .int 0])) :: R) H := hP
  have hD : va_D A ((q33, .inl (cI, 100, .inl (nf (fun _ => 0)))) :: (q25, .inl (cI, 100, .inl (nf (fun _ => 0)))) :: (q17, .inl (cI, 256, .inl (nf (fun _ => 0)))) :: (q8, .inl (cI, 256, .inl (k2 (fun _ => 0)))) :: (b_, .inr (1, [.ref q8, .ref q17, .ref q25, .ref q33, .int 0, .int 0, .int 0])) :: R) := hD
  refine lv_aload_n hx hb dX0_init_47 rfl (lv_at hl 0 rfl) ?_
  refine va_get (D := D) (ci := 1) (v := .ref q17) (C := RX0) (T := TX0) (N := 7) hx hb hts in_X0 hown hK hP 4 rfl rfl 1 (by decide) f_15 (fun _ h9 => h9) rfl dX0_init_48 ?_
  refine lv_iconst (v := -1) hx hb dX0_init_51 (by decide) ?_
  have hP := pm_2_0_1_3_4_P hP
  have hD := pm_2_0_1_3_4_D hD
  refine gc_Sv (As := [.ref q17, .int (-1)]) (rest := []) ⟨hx, hb, hml, hown, hts⟩ (c_J7_fill_53178 l D cI cJ cG H.size _ q17 256 (nf (fun _ => 0)) (-1) (by omega)) (va_cwS 2 hts gX0_init_J7_fill_53178 rfl rfl rfl (by decide +kernel) ⟨Nat.le_of_ble_eq_true rfl, Nat.le_of_ble_eq_true rfl⟩) hK hP hD hS hA rfl hl.1 rfl (Nat.le_of_ble_eq_true rfl) dX0_init_52 ⟨Nat.le_of_ble_eq_true rfl, Nat.le_of_ble_eq_true rfl⟩ (fun u52 H locs h52 hP hD hS => ?_)
  have hP : va_P D vwCl ((q17, .inl (cI, 256, .inl (fu (fun _ => ((-1) : Int32)) (nf (fun _ => 0)) 256))) :: (q33, .inl (cI, 100, .inl (nf (fun _ => 0)))) :: (q25, .inl (cI, 100, .inl (nf (fun _ => 0)))) :: (q8, .inl (cI, 256, .inl (k2 (fun _ => 0)))) :: (b_, .inr (1, [.ref q8, .ref q17, .ref q25, .ref q33, .int 0, .int 0, .int 0])) :: R) H := hP
  have hD : va_D A ((q17, .inl (cI, 256, .inl (fu (fun _ => ((-1) : Int32)) (nf (fun _ => 0)) 256))) :: (q33, .inl (cI, 100, .inl (nf (fun _ => 0)))) :: (q25, .inl (cI, 100, .inl (nf (fun _ => 0)))) :: (q8, .inl (cI, 256, .inl (k2 (fun _ => 0)))) :: (b_, .inr (1, [.ref q8, .ref q17, .ref q25, .ref q33, .int 0, .int 0, .int 0])) :: R) := hD
  have hP := g_exP (g := l1 (fun _ => 0)) hP (fun j hj => fil_m1 hj)
  have hD := g_exD (g := l1 (fun _ => 0)) hD
  have hP := pm_1_2_0_3_4_P hP
  have hD := pm_1_2_0_3_4_D hD
  have hP : va_P D vwCl ((q33, .inl (cI, 100, .inl (nf (fun _ => 0)))) :: (q25, .inl (cI, 100, .inl (nf (fun _ => 0)))) :: (q17, .inl (cI, 256, .inl (l1 (fun _ => 0)))) :: (q8, .inl (cI, 256, .inl (k2 (fun _ => 0)))) :: (b_, .inr (1, [.ref q8, .ref q17, .ref q25, .ref q33, .int 0, .int 0, .int 0])) :: R) H := hP
  have hD : va_D A ((q33, .inl (cI, 100, .inl (nf (fun _ => 0)))) :: (q25, .inl (cI, 100, .inl (nf (fun _ => 0)))) :: (q17, .inl (cI, 256, .inl (l1 (fun _ => 0)))) :: (q8, .inl (cI, 256, .inl (k2 (fun _ => 0)))) :: (b_, .inr (1, [.ref q8, .ref q17, .ref q25, .ref q33, .int 0, .int 0, .int 0])) :: R) := hD
  refine lv_aload_n hx hb dX0_init_55 rfl (lv_at hl 0 rfl) ?_
  refine lv_iconst (v := 0) hx hb dX0_init_56 (by decide) ?_
  refine va_put (D := D) (ci := 1) (v := .int 0) (ty := .int) (C := RX0) (T := TX0) (N := 7) hx hb hts in_X0 tyX0 tyX0_ok nmX0 hown hK hP hD hS 4 rfl rfl 4 (by decide) f_30 (fun _ h9 => h9) rfl (by decide +kernel) rfl rfl (Nat.le_of_ble_eq_true rfl) dX0_init_57 (fun H locs hP hD hS => ?_)
  have hP : va_P D vwCl ((q33, .inl (cI, 100, .inl (nf (fun _ => 0)))) :: (q25, .inl (cI, 100, .inl (nf (fun _ => 0)))) :: (q17, .inl (cI, 256, .inl (l1 (fun _ => 0)))) :: (q8, .inl (cI, 256, .inl (k2 (fun _ => 0)))) :: (b_, .inr (1, [.ref q8, .ref q17, .ref q25, .ref q33, .int 0, .int 0, .int 0])) :: R) H := hP
  have hD : va_D A ((q33, .inl (cI, 100, .inl (nf (fun _ => 0)))) :: (q25, .inl (cI, 100, .inl (nf (fun _ => 0)))) :: (q17, .inl (cI, 256, .inl (l1 (fun _ => 0)))) :: (q8, .inl (cI, 256, .inl (k2 (fun _ => 0)))) :: (b_, .inr (1, [.ref q8, .ref q17, .ref q25, .ref q33, .int 0, .int 0, .int 0])) :: R) := hD
  refine lv_aload_n hx hb dX0_init_60 rfl (lv_at hl 0 rfl) ?_
  refine lv_iconst (v := 0) hx hb dX0_init_61 (by decide) ?_
  refine va_put (D := D) (ci := 1) (v := .int 0) (ty := .int) (C := RX0) (T := TX0) (N := 7) hx hb hts in_X0 tyX0 tyX0_ok nmX0 hown hK hP hD hS 4 rfl rfl 5 (by decide) f_34 (fun _ h9 => h9) rfl (by decide +kernel) rfl rfl (Nat.le_of_ble_eq_true rfl) dX0_init_62 (fun H locs hP hD hS => ?_)
  have hP : va_P D vwCl ((q33, .inl (cI, 100, .inl (nf (fun _ => 0)))) :: (q25, .inl (cI, 100, .inl (nf (fun _ => 0)))) :: (q17, .inl (cI, 256, .inl (l1 (fun _ => 0)))) :: (q8, .inl (cI, 256, .inl (k2 (fun _ => 0)))) :: (b_, .inr (1, [.ref q8, .ref q17, .ref q25, .ref q33, .int 0, .int 0, .int 0])) :: R) H := hP
  have hD : va_D A ((q33, .inl (cI, 100, .inl (nf (fun _ => 0)))) :: (q25, .inl (cI, 100, .inl (nf (fun _ => 0)))) :: (q17, .inl (cI, 256, .inl (l1 (fun _ => 0)))) :: (q8, .inl (cI, 256, .inl (k2 (fun _ => 0)))) :: (b_, .inr (1, [.ref q8, .ref q17, .ref q25, .ref q33, .int 0, .int 0, .int 0])) :: R) := hD
  refine lv_aload_n hx hb dX0_init_65 rfl (lv_at hl 0 rfl) ?_
  refine lv_iconst (v := 0) hx hb dX0_init_66 (by decide) ?_
  refine va_put (D := D) (ci := 1) (v := .int 0) (ty := .int) (C := RX0) (T := TX0) (N := 7) hx hb hts in_X0 tyX0 tyX0_ok nmX0 hown hK hP hD hS 4 rfl rfl 6 (by decide) f_37 (fun _ h9 => h9) rfl (by decide +kernel) rfl rfl (Nat.le_of_ble_eq_true rfl) dX0_init_67 (fun H locs hP hD hS => ?_)
  have hP : va_P D vwCl ((q33, .inl (cI, 100, .inl (nf (fun _ => 0)))) :: (q25, .inl (cI, 100, .inl (nf (fun _ => 0)))) :: (q17, .inl (cI, 256, .inl (l1 (fun _ => 0)))) :: (q8, .inl (cI, 256, .inl (k2 (fun _ => 0)))) :: (b_, .inr (1, [.ref q8, .ref q17, .ref q25, .ref q33, .int 0, .int 0, .int 0])) :: R) H := hP
  have hD : va_D A ((q33, .inl (cI, 100, .inl (nf (fun _ => 0)))) :: (q25, .inl (cI, 100, .inl (nf (fun _ => 0)))) :: (q17, .inl (cI, 256, .inl (l1 (fun _ => 0)))) :: (q8, .inl (cI, 256, .inl (k2 (fun _ => 0)))) :: (b_, .inr (1, [.ref q8, .ref q17, .ref q25, .ref q33, .int 0, .int 0, .int 0])) :: R) := hD
  have hP := pm_4_3_2_1_0_P hP
  have hD := pm_4_3_2_1_0_D hD
  subst hQe
  subst hAe
  subst hsz
  exact g_vret hx hb hr hlocks (q8, q17, q25, q33) trivial hP hK hD hS dX0_init_70
theorem pm_10_9_8_7_6_5_4_3_2_1_0_P {D : va_G} {cl : List vw_C} {H : Heap} {x0 x1 x2 x3 x4 x5 x6 x7 x8 x9 x10 : Nat × va_E} {T : va_W} (h : va_P D cl (x0 :: x1 :: x2 :: x3 :: x4 :: x5 :: x6 :: x7 :: x8 :: x9 :: x10 :: T) H) : va_P D cl (x10 :: x9 :: x8 :: x7 :: x6 :: x5 :: x4 :: x3 :: x2 :: x1 :: x0 :: T) H := va_P.part (X := [x0, x1, x2, x3, x4, x5, x6, x7, x8, x9, x10]) (pl := T) (cx := [x10, x9, x8, x7, x6, x5, x4, x3, x2, x1, x0]) h [10, 9, 8, 7, 6, 5, 4, 3, 2, 1, 0] rfl
theorem pm_10_9_8_7_6_5_4_3_2_1_0_D {A : Nat → Prop} {x0 x1 x2 x3 x4 x5 x6 x7 x8 x9 x10 : Nat × va_E} {T : va_W} (h : va_D A (x0 :: x1 :: x2 :: x3 :: x4 :: x5 :: x6 :: x7 :: x8 :: x9 :: x10 :: T)) : va_D A (x10 :: x9 :: x8 :: x7 :: x6 :: x5 :: x4 :: x3 :: x2 :: x1 :: x0 :: T) := va_D.part (X := [x0, x1, x2, x3, x4, x5, x6, x7, x8, x9, x10]) (pl := T) (cx := [x10, x9, x8, x7, x6, x5, x4, x3, x2, x1, x0]) h [10, 9, 8, 7, 6, 5, 4, 3, 2, 1, 0] (by decide) rfl
abbrev rX4_init : Room := { frames := 1, cells := 10, slots := 1308, locals := 20 }
set_option maxHeartbeats 4000000 in
set_option maxRecDepth 100000 in
theorem c_X4_init (l : Launch) (D : va_G) (cI cJ cG : ClassId) (sz : Nat) (R : va_W) (m_ : Nat) (x : Int32) : Met l yX4_init wsX4_init rX4_init (gP D (tyl cI cJ cG) [.ref m_, .int x] ((m_, .inr (5, [.int 0, .null, .null, .null, .long 0, .int 0, .null, .null, .long 0, .null, .int 0, .null, .null, .int 0, .int 0, .null, .null])) :: R) sz) (gQv D (tyl cI cJ cG) ((m_, .inr (5, [.int 0, .null, .null, .null, .long 0, .int 0, .null, .null, .long 0, .null, .int 0, .null, .null, .int 0, .int 0, .null, .null])) :: R) sz (fun (_ : Nat × Nat × Nat × Nat × Nat × Nat × Nat × Nat × Nat × Nat) => True) (fun u => ((m_, .inr (5, [.int (nI (kN x)), .ref u.1, .ref u.2.1, .ref u.2.2.1, .long 0, .int 0, .ref u.2.2.2.1, .ref u.2.2.2.2.1, .long 1, .ref u.2.2.2.2.2.1, .int 0, .ref u.2.2.2.2.2.2.1, .ref u.2.2.2.2.2.2.2.1, .int 0, .int 0, .ref u.2.2.2.2.2.2.2.2.1, .ref u.2.2.2.2.2.2.2.2.2])) :: (u.1, .inl (cI, 8, .inl (nf (fun _ => 0)))) :: (u.2.1, .inl (cI, 8, .inl (nf (fun _ => 255)))) :: (u.2.2.1, .inl (cI, 8, .inl (nf (fun _ => 0)))) :: (u.2.2.2.1, .inl (cI, 40, .inl (nf (fun _ => 0)))) :: (u.2.2.2.2.1, .inl (cI, 320, .inl (nf (fun _ => 0)))) :: (u.2.2.2.2.2.1, .inl (cJ, 4, .inr (.inl (fun _ => 0)))) :: (u.2.2.2.2.2.2.1, .inl (cI, 256, .inl (nf (fun _ => 0)))) :: (u.2.2.2.2.2.2.2.1, .inl (cI, 400, .inl (nf (fun _ => 0)))) :: (u.2.2.2.2.2.2.2.2.1, .inl (cI, 8, .inl (nf (fun _ => 0)))) :: (u.2.2.2.2.2.2.2.2.2, .inl (cI, 256, .inl (nf (fun _ => 0)))) :: R))) 10 1308 (va_A ((m_, .inr (5, [.int 0, .null, .null, .null, .long 0, .int 0, .null, .null, .long 0, .null, .int 0, .null, .null, .int 0, .int 0, .null, .null])) :: R) sz) := by
  refine gMet (cc := cX4_init) (maxL := 3) (ret := none) (ls0 := [(0, .ref m_), (1, .int x)]) (by decide) rfl (Nat.le_of_ble_eq_true rfl) rfl ?_
  intro p e s m below meth c hx hb hr hts hown hlocks hml hname A hA hAe hsz Q hQe H locs hP hK hD hS ls hl
  have hown : s.vm.findClass RX4 = some m.cls := hown
  have in_X4 : ∀ w ∈ wsX40, w ∈ wsX4_init := by decide +kernel
  have f_7 := hts (.fieldLink RX4 7 "SpectrumHeadsModel" "darks" "[I") (by decide +kernel)
  have f_13 := hts (.fieldLink RX4 13 "SpectrumHeadsModel" "whites" "[I") (by decide +kernel)
  have f_16 := hts (.fieldLink RX4 16 "SpectrumHeadsModel" "values" "[I") (by decide +kernel)
  have f_19 := hts (.fieldLink RX4 19 "SpectrumHeadsModel" "taughtKind" "[I") (by decide +kernel)
  have f_22 := hts (.fieldLink RX4 22 "SpectrumHeadsModel" "taughtRow" "[I") (by decide +kernel)
  have f_25 := hts (.fieldLink RX4 25 "SpectrumHeadsModel" "least" "J") (by decide +kernel)
  have f_29 := hts (.fieldLink RX4 29 "SpectrumHeadsModel" "worths" "[J") (by decide +kernel)
  have f_33 := hts (.fieldLink RX4 33 "SpectrumHeadsModel" "field" "[I") (by decide +kernel)
  have f_36 := hts (.fieldLink RX4 36 "SpectrumHeadsModel" "fed" "[I") (by decide +kernel)
  have f_39 := hts (.fieldLink RX4 39 "SpectrumHeadsModel" "row" "[I") (by decide +kernel)
  have f_42 := hts (.fieldLink RX4 42 "SpectrumHeadsModel" "pieces" "[I") (by decide +kernel)
  have f_45 := hts (.fieldLink RX4 45 "SpectrumHeadsModel" "kinds" "I") (by decide +kernel)
  refine lv_aload_n hx hb dX4_init_0 rfl (lv_at hl 0 rfl) ?_
  refine W.objInit hx hb hown (hts (.methodLink RX4 1 objectInit) (by decide +kernel)) (hts (.instanceMethod objectInit) (by decide +kernel)) (hts (.code objectInit ⟨#[0xb1]⟩ 1 none) (by decide +kernel)) rfl (by rw [hml]; exact hl.1) rfl dX4_init_1 (Nat.le_of_ble_eq_true rfl) (Nat.le_of_ble_eq_true rfl) ?_
  refine W.eq (g2 := F0 m 4 ls []) rfl ?_
  refine lv_aload_n hx hb dX4_init_4 rfl (lv_at hl 0 rfl) ?_
  refine lv_bipush (v := 8) hx hb dX4_init_5 (by decide) ?_
  refine g_newI hx hb (hts (.arrayClass .int) (by decide +kernel)) hK hP hD hS hA 8 rfl (by omega) (Nat.le_of_ble_eq_true rfl) (Nat.le_of_ble_eq_true rfl) dX4_init_7 (fun q7 H hP hD hS => ?_)
  refine va_putF (D := D) (ci := 5) (v := .ref q7) (ty := (.array .int)) (C := RX4) (T := TX4) (N := 17) hx hb hts in_X4 tyX4 tyX4_ok nmX4 hown hK hP hD hS 1 rfl rfl 1 (by decide) f_7 (fun _ h9 => h9) rfl hname rfl (by decide +kernel) rfl rfl (Nat.le_of_ble_eq_true rfl) dX4_init_9 (fun H locs hP hD hS => ?_)
  have hP : va_P D vwCl ((q7, .inl (cI, 8, .inl (nf (fun _ => 0)))) :: (m_, .inr (5, [.int 0, .ref q7, .null, .null, .long 0, .int 0, .null, .null, .long 0, .null, .int 0, .null, .null, .int 0, .int 0, .null, .null])) :: R) H := hP
  have hD : va_D A ((q7, .inl (cI, 8, .inl (nf (fun _ => 0)))) :: (m_, .inr (5, [.int 0, .ref q7, .null, .null, .long 0, .int 0, .null, .null, .long 0, .null, .int 0, .null, .null, .int 0, .int 0, .null, .null])) :: R) := hD
  refine lv_aload_n hx hb dX4_init_12 rfl (lv_at hl 0 rfl) ?_
  refine lv_bipush (v := 8) hx hb dX4_init_13 (by decide) ?_
  refine g_newI hx hb (hts (.arrayClass .int) (by decide +kernel)) hK hP hD hS hA 8 rfl (by omega) (Nat.le_of_ble_eq_true rfl) (Nat.le_of_ble_eq_true rfl) dX4_init_15 (fun q15 H hP hD hS => ?_)
  refine va_putF (D := D) (ci := 5) (v := .ref q15) (ty := (.array .int)) (C := RX4) (T := TX4) (N := 17) hx hb hts in_X4 tyX4 tyX4_ok nmX4 hown hK hP hD hS 2 rfl rfl 2 (by decide) f_13 (fun _ h9 => h9) rfl hname rfl (by decide +kernel) rfl rfl (Nat.le_of_ble_eq_true rfl) dX4_init_17 (fun H locs hP hD hS => ?_)
  have hP : va_P D vwCl ((q15, .inl (cI, 8, .inl (nf (fun _ => 0)))) :: (q7, .inl (cI, 8, .inl (nf (fun _ => 0)))) :: (m_, .inr (5, [.int 0, .ref q7, .ref q15, .null, .long 0, .int 0, .null, .null, .long 0, .null, .int 0, .null, .null, .int 0, .int 0, .null, .null])) :: R) H := hP
  have hD : va_D A ((q15, .inl (cI, 8, .inl (nf (fun _ => 0)))) :: (q7, .inl (cI, 8, .inl (nf (fun _ => 0)))) :: (m_, .inr (5, [.int 0, .ref q7, .ref q15, .null, .long 0, .int 0, .null, .null, .long 0, .null, .int 0, .null, .null, .int 0, .int 0, .null, .null])) :: R) := hD
  refine lv_aload_n hx hb dX4_init_20 rfl (lv_at hl 0 rfl) ?_
  refine lv_bipush (v := 8) hx hb dX4_init_21 (by decide) ?_
  refine g_newI hx hb (hts (.arrayClass .int) (by decide +kernel)) hK hP hD hS hA 8 rfl (by omega) (Nat.le_of_ble_eq_true rfl) (Nat.le_of_ble_eq_true rfl) dX4_init_23 (fun q23 H hP hD hS => ?_)
  refine va_putF (D := D) (ci := 5) (v := .ref q23) (ty := (.array .int)) (C := RX4) (T := TX4) (N := 17) hx hb hts in_X4 tyX4 tyX4_ok nmX4 hown hK hP hD hS 3 rfl rfl 3 (by decide) f_16 (fun _ h9 => h9) rfl hname rfl (by decide +kernel) rfl rfl (Nat.le_of_ble_eq_true rfl) dX4_init_25 (fun H locs hP hD hS => ?_)
  have hP : va_P D vwCl ((q23, .inl (cI, 8, .inl (nf (fun _ => 0)))) :: (q15, .inl (cI, 8, .inl (nf (fun _ => 0)))) :: (q7, .inl (cI, 8, .inl (nf (fun _ => 0)))) :: (m_, .inr (5, [.int 0, .ref q7, .ref q15, .ref q23, .long 0, .int 0, .null, .null, .long 0, .null, .int 0, .null, .null, .int 0, .int 0, .null, .null])) :: R) H := hP
  have hD : va_D A ((q23, .inl (cI, 8, .inl (nf (fun _ => 0)))) :: (q15, .inl (cI, 8, .inl (nf (fun _ => 0)))) :: (q7, .inl (cI, 8, .inl (nf (fun _ => 0)))) :: (m_, .inr (5, [.int 0, .ref q7, .ref q15, .ref q23, .long 0, .int 0, .null, .null, .long 0, .null, .int 0, .null, .null, .int 0, .int 0, .null, .null])) :: R) := hD
  refine lv_aload_n hx hb dX4_init_28 rfl (lv_at hl 0 rfl) ?_
  refine lv_bipush (v := 40) hx hb dX4_init_29 (by decide) ?_
  refine g_newI hx hb (hts (.arrayClass .int) (by decide +kernel)) hK hP hD hS hA 40 rfl (by omega) (Nat.le_of_ble_eq_true rfl) (Nat.le_of_ble_eq_true rfl) dX4_init_31 (fun q31 H hP hD hS => ?_)
  refine va_putF (D := D) (ci := 5) (v := .ref q31) (ty := (.array .int)) (C := RX4) (T := TX4) (N := 17) hx hb hts in_X4 tyX4 tyX4_ok nmX4 hown hK hP hD hS 4 rfl rfl 6 (by decide) f_19 (fun _ h9 => h9) rfl hname rfl (by decide +kernel) rfl rfl (Nat.le_of_ble_eq_true rfl) dX4_init_33 (fun H locs hP hD hS => ?_)
  have hP : va_P D vwCl ((q31, .inl (cI, 40, .inl (nf (fun _ => 0)))) :: (q23, .inl (cI, 8, .inl (nf (fun _ => 0)))) :: (q15, .inl (cI, 8, .inl (nf (fun _ => 0)))) :: (q7, .inl (cI, 8, .inl (nf (fun _ => 0)))) :: (m_, .inr (5, [.int 0, .ref q7, .ref q15, .ref q23, .long 0, .int 0, .ref q31, .null, .long 0, .null, .int 0, .null, .null, .int 0, .int 0, .null, .null])) :: R) H := hP
  have hD : va_D A ((q31, .inl (cI, 40, .inl (nf (fun _ => 0)))) :: (q23, .inl (cI, 8, .inl (nf (fun _ => 0)))) :: (q15, .inl (cI, 8, .inl (nf (fun _ => 0)))) :: (q7, .inl (cI, 8, .inl (nf (fun _ => 0)))) :: (m_, .inr (5, [.int 0, .ref q7, .ref q15, .ref q23, .long 0, .int 0, .ref q31, .null, .long 0, .null, .int 0, .null, .null, .int 0, .int 0, .null, .null])) :: R) := hD
  refine lv_aload_n hx hb dX4_init_36 rfl (lv_at hl 0 rfl) ?_
  refine lv_sipush (v := 320) hx hb dX4_init_37 (by decide) ?_
  refine g_newI hx hb (hts (.arrayClass .int) (by decide +kernel)) hK hP hD hS hA 320 rfl (by omega) (Nat.le_of_ble_eq_true rfl) (Nat.le_of_ble_eq_true rfl) dX4_init_40 (fun q40 H hP hD hS => ?_)
  refine va_putF (D := D) (ci := 5) (v := .ref q40) (ty := (.array .int)) (C := RX4) (T := TX4) (N := 17) hx hb hts in_X4 tyX4 tyX4_ok nmX4 hown hK hP hD hS 5 rfl rfl 7 (by decide) f_22 (fun _ h9 => h9) rfl hname rfl (by decide +kernel) rfl rfl (Nat.le_of_ble_eq_true rfl) dX4_init_42 (fun H locs hP hD hS => ?_)
  have hP : va_P D vwCl ((q40, .inl (cI, 320, .inl (nf (fun _ => 0)))) :: (q31, .inl (cI, 40, .inl (nf (fun _ => 0)))) :: (q23, .inl (cI, 8, .inl (nf (fun _ => 0)))) :: (q15, .inl (cI, 8, .inl (nf (fun _ => 0)))) :: (q7, .inl (cI, 8, .inl (nf (fun _ => 0)))) :: (m_, .inr (5, [.int 0, .ref q7, .ref q15, .ref q23, .long 0, .int 0, .ref q31, .ref q40, .long 0, .null, .int 0, .null, .null, .int 0, .int 0, .null, .null])) :: R) H := hP
  have hD : va_D A ((q40, .inl (cI, 320, .inl (nf (fun _ => 0)))) :: (q31, .inl (cI, 40, .inl (nf (fun _ => 0)))) :: (q23, .inl (cI, 8, .inl (nf (fun _ => 0)))) :: (q15, .inl (cI, 8, .inl (nf (fun _ => 0)))) :: (q7, .inl (cI, 8, .inl (nf (fun _ => 0)))) :: (m_, .inr (5, [.int 0, .ref q7, .ref q15, .ref q23, .long 0, .int 0, .ref q31, .ref q40, .long 0, .null, .int 0, .null, .null, .int 0, .int 0, .null, .null])) :: R) := hD
  refine lv_aload_n hx hb dX4_init_45 rfl (lv_at hl 0 rfl) ?_
  refine lv_lconst (v := 1) hx hb dX4_init_46 (by decide) ?_
  refine va_put (D := D) (ci := 5) (v := .long 1) (ty := .long) (C := RX4) (T := TX4) (N := 17) hx hb hts in_X4 tyX4 tyX4_ok nmX4 hown hK hP hD hS 5 rfl rfl 8 (by decide) f_25 (fun _ h9 => h9) rfl (by decide +kernel) rfl rfl (Nat.le_of_ble_eq_true rfl) dX4_init_47 (fun H locs hP hD hS => ?_)
  have hP : va_P D vwCl ((q40, .inl (cI, 320, .inl (nf (fun _ => 0)))) :: (q31, .inl (cI, 40, .inl (nf (fun _ => 0)))) :: (q23, .inl (cI, 8, .inl (nf (fun _ => 0)))) :: (q15, .inl (cI, 8, .inl (nf (fun _ => 0)))) :: (q7, .inl (cI, 8, .inl (nf (fun _ => 0)))) :: (m_, .inr (5, [.int 0, .ref q7, .ref q15, .ref q23, .long 0, .int 0, .ref q31, .ref q40, .long 1, .null, .int 0, .null, .null, .int 0, .int 0, .null, .null])) :: R) H := hP
  have hD : va_D A ((q40, .inl (cI, 320, .inl (nf (fun _ => 0)))) :: (q31, .inl (cI, 40, .inl (nf (fun _ => 0)))) :: (q23, .inl (cI, 8, .inl (nf (fun _ => 0)))) :: (q15, .inl (cI, 8, .inl (nf (fun _ => 0)))) :: (q7, .inl (cI, 8, .inl (nf (fun _ => 0)))) :: (m_, .inr (5, [.int 0, .ref q7, .ref q15, .ref q23, .long 0, .int 0, .ref q31, .ref q40, .long 1, .null, .int 0, .null, .null, .int 0, .int 0, .null, .null])) :: R) := hD
  refine lv_aload_n hx hb dX4_init_50 rfl (lv_at hl 0 rfl) ?_
  refine lv_iconst (v := 4) hx hb dX4_init_51 (by decide) ?_
  refine g_newJ hx hb (hts (.arrayClass .long) (by decide +kernel)) hK hP hD hS hA 4 rfl (by omega) (Nat.le_of_ble_eq_true rfl) (Nat.le_of_ble_eq_true rfl) dX4_init_52 (fun q52 H hP hD hS => ?_)
  refine va_putF (D := D) (ci := 5) (v := .ref q52) (ty := (.array .long)) (C := RX4) (T := TX4) (N := 17) hx hb hts in_X4 tyX4 tyX4_ok nmX4 hown hK hP hD hS 6 rfl rfl 9 (by decide) f_29 (fun _ h9 => h9) rfl hname rfl (by decide +kernel) rfl rfl (Nat.le_of_ble_eq_true rfl) dX4_init_54 (fun H locs hP hD hS => ?_)
  have hP : va_P D vwCl ((q52, .inl (cJ, 4, .inr (.inl (fun _ => 0)))) :: (q40, .inl (cI, 320, .inl (nf (fun _ => 0)))) :: (q31, .inl (cI, 40, .inl (nf (fun _ => 0)))) :: (q23, .inl (cI, 8, .inl (nf (fun _ => 0)))) :: (q15, .inl (cI, 8, .inl (nf (fun _ => 0)))) :: (q7, .inl (cI, 8, .inl (nf (fun _ => 0)))) :: (m_, .inr (5, [.int 0, .ref q7, .ref q15, .ref q23, .long 0, .int 0, .ref q31, .ref q40, .long 1, .ref q52, .int 0, .null, .null, .int 0, .int 0, .null, .null])) :: R) H := hP
  have hD : va_D A ((q52, .inl (cJ, 4, .inr (.inl (fun _ => 0)))) :: (q40, .inl (cI, 320, .inl (nf (fun _ => 0)))) :: (q31, .inl (cI, 40, .inl (nf (fun _ => 0)))) :: (q23, .inl (cI, 8, .inl (nf (fun _ => 0)))) :: (q15, .inl (cI, 8, .inl (nf (fun _ => 0)))) :: (q7, .inl (cI, 8, .inl (nf (fun _ => 0)))) :: (m_, .inr (5, [.int 0, .ref q7, .ref q15, .ref q23, .long 0, .int 0, .ref q31, .ref q40, .long 1, .ref q52, .int 0, .null, .null, .int 0, .int 0, .null, .null])) :: R) := hD
  refine lv_aload_n hx hb dX4_init_57 rfl (lv_at hl 0 rfl) ?_
  refine lv_sipush (v := 256) hx hb dX4_init_58 (by decide) ?_
  refine g_newI hx hb (hts (.arrayClass .int) (by decide +kernel)) hK hP hD hS hA 256 rfl (by omega) (Nat.le_of_ble_eq_true rfl) (Nat.le_of_ble_eq_true rfl) dX4_init_61 (fun q61 H hP hD hS => ?_)
  refine va_putF (D := D) (ci := 5) (v := .ref q61) (ty := (.array .int)) (C := RX4) (T := TX4) (N := 17) hx hb hts in_X4 tyX4 tyX4_ok nmX4 hown hK hP hD hS 7 rfl rfl 11 (by decide) f_33 (fun _ h9 => h9) rfl hname rfl (by decide +kernel) rfl rfl (Nat.le_of_ble_eq_true rfl) dX4_init_63 (fun H locs hP hD hS => ?_)
  have hP : va_P D vwCl ((q61, .inl (cI, 256, .inl (nf (fun _ => 0)))) :: (q52, .inl (cJ, 4, .inr (.inl (fun _ => 0)))) :: (q40, .inl (cI, 320, .inl (nf (fun _ => 0)))) :: (q31, .inl (cI, 40, .inl (nf (fun _ => 0)))) :: (q23, .inl (cI, 8, .inl (nf (fun _ => 0)))) :: (q15, .inl (cI, 8, .inl (nf (fun _ => 0)))) :: (q7, .inl (cI, 8, .inl (nf (fun _ => 0)))) :: (m_, .inr (5, [.int 0, .ref q7, .ref q15, .ref q23, .long 0, .int 0, .ref q31, .ref q40, .long 1, .ref q52, .int 0, .ref q61, .null, .int 0, .int 0, .null, .null])) :: R) H := hP
  have hD : va_D A ((q61, .inl (cI, 256, .inl (nf (fun _ => 0)))) :: (q52, .inl (cJ, 4, .inr (.inl (fun _ => 0)))) :: (q40, .inl (cI, 320, .inl (nf (fun _ => 0)))) :: (q31, .inl (cI, 40, .inl (nf (fun _ => 0)))) :: (q23, .inl (cI, 8, .inl (nf (fun _ => 0)))) :: (q15, .inl (cI, 8, .inl (nf (fun _ => 0)))) :: (q7, .inl (cI, 8, .inl (nf (fun _ => 0)))) :: (m_, .inr (5, [.int 0, .ref q7, .ref q15, .ref q23, .long 0, .int 0, .ref q31, .ref q40, .long 1, .ref q52, .int 0, .ref q61, .null, .int 0, .int 0, .null, .null])) :: R) := hD
  refine lv_aload_n hx hb dX4_init_66 rfl (lv_at hl 0 rfl) ?_
  refine lv_sipush (v := 400) hx hb dX4_init_67 (by decide) ?_
  refine g_newI hx hb (hts (.arrayClass .int) (by decide +kernel)) hK hP hD hS hA 400 rfl (by omega) (Nat.le_of_ble_eq_true rfl) (Nat.le_of_ble_eq_true rfl) dX4_init_70 (fun q70 H hP hD hS => ?_)
  refine va_putF (D := D) (ci := 5) (v := .ref q70) (ty := (.array .int)) (C := RX4) (T := TX4) (N := 17) hx hb hts in_X4 tyX4 tyX4_ok nmX4 hown hK hP hD hS 8 rfl rfl 12 (by decide) f_36 (fun _ h9 => h9) rfl hname rfl (by decide +kernel) rfl rfl (Nat.le_of_ble_eq_true rfl) dX4_init_72 (fun H locs hP hD hS => ?_)
  have hP : va_P D vwCl ((q70, .inl (cI, 400, .inl (nf (fun _ => 0)))) :: (q61, .inl (cI, 256, .inl (nf (fun _ => 0)))) :: (q52, .inl (cJ, 4, .inr (.inl (fun _ => 0)))) :: (q40, .inl (cI, 320, .inl (nf (fun _ => 0)))) :: (q31, .inl (cI, 40, .inl (nf (fun _ => 0)))) :: (q23, .inl (cI, 8, .inl (nf (fun _ => 0)))) :: (q15, .inl (cI, 8, .inl (nf (fun _ => 0)))) :: (q7, .inl (cI, 8, .inl (nf (fun _ => 0)))) :: (m_, .inr (5, [.int 0, .ref q7, .ref q15, .ref q23, .long 0, .int 0, .ref q31, .ref q40, .long 1, .ref q52, .int 0, .ref q61, .ref q70, .int 0, .int 0, .null, .null])) :: R) H := hP
  have hD : va_D A ((q70, .inl (cI, 400, .inl (nf (fun _ => 0)))) :: (q61, .inl (cI, 256, .inl (nf (fun _ => 0)))) :: (q52, .inl (cJ, 4, .inr (.inl (fun _ => 0)))) :: (q40, .inl (cI, 320, .inl (nf (fun _ => 0)))) :: (q31, .inl (cI, 40, .inl (nf (fun _ => 0)))) :: (q23, .inl (cI, 8, .inl (nf (fun _ => 0)))) :: (q15, .inl (cI, 8, .inl (nf (fun _ => 0)))) :: (q7, .inl (cI, 8, .inl (nf (fun _ => 0)))) :: (m_, .inr (5, [.int 0, .ref q7, .ref q15, .ref q23, .long 0, .int 0, .ref q31, .ref q40, .long 1, .ref q52, .int 0, .ref q61, .ref q70, .int 0, .int 0, .null, .null])) :: R) := hD
  refine lv_aload_n hx hb dX4_init_75 rfl (lv_at hl 0 rfl) ?_
  refine lv_bipush (v := 8) hx hb dX4_init_76 (by decide) ?_
  refine g_newI hx hb (hts (.arrayClass .int) (by decide +kernel)) hK hP hD hS hA 8 rfl (by omega) (Nat.le_of_ble_eq_true rfl) (Nat.le_of_ble_eq_true rfl) dX4_init_78 (fun q78 H hP hD hS => ?_)
  refine va_putF (D := D) (ci := 5) (v := .ref q78) (ty := (.array .int)) (C := RX4) (T := TX4) (N := 17) hx hb hts in_X4 tyX4 tyX4_ok nmX4 hown hK hP hD hS 9 rfl rfl 15 (by decide) f_39 (fun _ h9 => h9) rfl hname rfl (by decide +kernel) rfl rfl (Nat.le_of_ble_eq_true rfl) dX4_init_80 (fun H locs hP hD hS => ?_)
  have hP : va_P D vwCl ((q78, .inl (cI, 8, .inl (nf (fun _ => 0)))) :: (q70, .inl (cI, 400, .inl (nf (fun _ => 0)))) :: (q61, .inl (cI, 256, .inl (nf (fun _ => 0)))) :: (q52, .inl (cJ, 4, .inr (.inl (fun _ => 0)))) :: (q40, .inl (cI, 320, .inl (nf (fun _ => 0)))) :: (q31, .inl (cI, 40, .inl (nf (fun _ => 0)))) :: (q23, .inl (cI, 8, .inl (nf (fun _ => 0)))) :: (q15, .inl (cI, 8, .inl (nf (fun _ => 0)))) :: (q7, .inl (cI, 8, .inl (nf (fun _ => 0)))) :: (m_, .inr (5, [.int 0, .ref q7, .ref q15, .ref q23, .long 0, .int 0, .ref q31, .ref q40, .long 1, .ref q52, .int 0, .ref q61, .ref q70, .int 0, .int 0, .ref q78, .null])) :: R) H := hP
  have hD : va_D A ((q78, .inl (cI, 8, .inl (nf (fun _ => 0)))) :: (q70, .inl (cI, 400, .inl (nf (fun _ => 0)))) :: (q61, .inl (cI, 256, .inl (nf (fun _ => 0)))) :: (q52, .inl (cJ, 4, .inr (.inl (fun _ => 0)))) :: (q40, .inl (cI, 320, .inl (nf (fun _ => 0)))) :: (q31, .inl (cI, 40, .inl (nf (fun _ => 0)))) :: (q23, .inl (cI, 8, .inl (nf (fun _ => 0)))) :: (q15, .inl (cI, 8, .inl (nf (fun _ => 0)))) :: (q7, .inl (cI, 8, .inl (nf (fun _ => 0)))) :: (m_, .inr (5, [.int 0, .ref q7, .ref q15, .ref q23, .long 0, .int 0, .ref q31, .ref q40, .long 1, .ref q52, .int 0, .ref q61, .ref q70, .int 0, .int 0, .ref q78, .null])) :: R) := hD
  refine lv_aload_n hx hb dX4_init_83 rfl (lv_at hl 0 rfl) ?_
  refine lv_sipush (v := 256) hx hb dX4_init_84 (by decide) ?_
  refine g_newI hx hb (hts (.arrayClass .int) (by decide +kernel)) hK hP hD hS hA 256 rfl (by omega) (Nat.le_of_ble_eq_true rfl) (Nat.le_of_ble_eq_true rfl) dX4_init_87 (fun q87 H hP hD hS => ?_)
  refine va_putF (D := D) (ci := 5) (v := .ref q87) (ty := (.array .int)) (C := RX4) (T := TX4) (N := 17) hx hb hts in_X4 tyX4 tyX4_ok nmX4 hown hK hP hD hS 10 rfl rfl 16 (by decide) f_42 (fun _ h9 => h9) rfl hname rfl (by decide +kernel) rfl rfl (Nat.le_of_ble_eq_true rfl) dX4_init_89 (fun H locs hP hD hS => ?_)
  have hP : va_P D vwCl ((q87, .inl (cI, 256, .inl (nf (fun _ => 0)))) :: (q78, .inl (cI, 8, .inl (nf (fun _ => 0)))) :: (q70, .inl (cI, 400, .inl (nf (fun _ => 0)))) :: (q61, .inl (cI, 256, .inl (nf (fun _ => 0)))) :: (q52, .inl (cJ, 4, .inr (.inl (fun _ => 0)))) :: (q40, .inl (cI, 320, .inl (nf (fun _ => 0)))) :: (q31, .inl (cI, 40, .inl (nf (fun _ => 0)))) :: (q23, .inl (cI, 8, .inl (nf (fun _ => 0)))) :: (q15, .inl (cI, 8, .inl (nf (fun _ => 0)))) :: (q7, .inl (cI, 8, .inl (nf (fun _ => 0)))) :: (m_, .inr (5, [.int 0, .ref q7, .ref q15, .ref q23, .long 0, .int 0, .ref q31, .ref q40, .long 1, .ref q52, .int 0, .ref q61, .ref q70, .int 0, .int 0, .ref q78, .ref q87])) :: R) H := hP
  have hD : va_D A ((q87, .inl (cI, 256, .inl (nf (fun _ => 0)))) :: (q78, .inl (cI, 8, .inl (nf (fun _ => 0)))) :: (q70, .inl (cI, 400, .inl (nf (fun _ => 0)))) :: (q61, .inl (cI, 256, .inl (nf (fun _ => 0)))) :: (q52, .inl (cJ, 4, .inr (.inl (fun _ => 0)))) :: (q40, .inl (cI, 320, .inl (nf (fun _ => 0)))) :: (q31, .inl (cI, 40, .inl (nf (fun _ => 0)))) :: (q23, .inl (cI, 8, .inl (nf (fun _ => 0)))) :: (q15, .inl (cI, 8, .inl (nf (fun _ => 0)))) :: (q7, .inl (cI, 8, .inl (nf (fun _ => 0)))) :: (m_, .inr (5, [.int 0, .ref q7, .ref q15, .ref q23, .long 0, .int 0, .ref q31, .ref q40, .long 1, .ref q52, .int 0, .ref q61, .ref q70, .int 0, .int 0, .ref q78, .ref q87])) :: R) := hD
  refine lv_aload_n hx hb dX4_init_92 rfl (lv_at hl 0 rfl) ?_
  refine lv_iload_n hx hb dX4_init_93 rfl (lv_at hl 1 rfl) ?_
  refine lv_iconst (v := 1) hx hb dX4_init_94 (by decide) ?_
  have J_108 : ∀ (k : Int32) (hk : k = nI (kN x)) (H : Heap) (locs : List Loc) (ls : Array Slot), va_P D vwCl ((q87, .inl (cI, 256, .inl (nf (fun _ => 0)))) :: (q78, .inl (cI, 8, .inl (nf (fun _ => 0)))) :: (q70, .inl (cI, 400, .inl (nf (fun _ => 0)))) :: (q61, .inl (cI, 256, .inl (nf (fun _ => 0)))) :: (q52, .inl (cJ, 4, .inr (.inl (fun _ => 0)))) :: (q40, .inl (cI, 320, .inl (nf (fun _ => 0)))) :: (q31, .inl (cI, 40, .inl (nf (fun _ => 0)))) :: (q23, .inl (cI, 8, .inl (nf (fun _ => 0)))) :: (q15, .inl (cI, 8, .inl (nf (fun _ => 0)))) :: (q7, .inl (cI, 8, .inl (nf (fun _ => 0)))) :: (m_, .inr (5, [.int 0, .ref q7, .ref q15, .ref q23, .long 0, .int 0, .ref q31, .ref q40, .long 1, .ref q52, .int 0, .ref q61, .ref q70, .int 0, .int 0, .ref q78, .ref q87])) :: R) H → va_D A ((q87, .inl (cI, 256, .inl (nf (fun _ => 0)))) :: (q78, .inl (cI, 8, .inl (nf (fun _ => 0)))) :: (q70, .inl (cI, 400, .inl (nf (fun _ => 0)))) :: (q61, .inl (cI, 256, .inl (nf (fun _ => 0)))) :: (q52, .inl (cJ, 4, .inr (.inl (fun _ => 0)))) :: (q40, .inl (cI, 320, .inl (nf (fun _ => 0)))) :: (q31, .inl (cI, 40, .inl (nf (fun _ => 0)))) :: (q23, .inl (cI, 8, .inl (nf (fun _ => 0)))) :: (q15, .inl (cI, 8, .inl (nf (fun _ => 0)))) :: (q7, .inl (cI, 8, .inl (nf (fun _ => 0)))) :: (m_, .inr (5, [.int 0, .ref q7, .ref q15, .ref q23, .long 0, .int 0, .ref q31, .ref q40, .long 1, .ref q52, .int 0, .ref q61, .ref q70, .int 0, .int 0, .ref q78, .ref q87])) :: R) → va_S A s.heap H locs → lv_has ls 3 [(0, .ref m_), (1, .int x)] → W p l e (headSpec wsX4_init rX4_init).room s m ([.ref m_, .int x] : List Value).toArray below meth c H locs 10 1308 Q (F0 m 108 ls [.int k, .ref m_]) := by
    intro k hk H locs ls hP hD hS hl
    subst hk
    refine va_putF (D := D) (ci := 5) (v := .int (nI (kN x))) (ty := .int) (C := RX4) (T := TX4) (N := 17) hx hb hts in_X4 tyX4 tyX4_ok nmX4 hown hK hP hD hS 10 rfl rfl 0 (by decide) f_45 (fun _ h9 => h9) rfl hname rfl (by decide +kernel) rfl rfl (Nat.le_of_ble_eq_true rfl) dX4_init_108 (fun H locs hP hD hS => ?_)
    have hP : va_P D vwCl ((q87, .inl (cI, 256, .inl (nf (fun _ => 0)))) :: (q78, .inl (cI, 8, .inl (nf (fun _ => 0)))) :: (q70, .inl (cI, 400, .inl (nf (fun _ => 0)))) :: (q61, .inl (cI, 256, .inl (nf (fun _ => 0)))) :: (q52, .inl (cJ, 4, .inr (.inl (fun _ => 0)))) :: (q40, .inl (cI, 320, .inl (nf (fun _ => 0)))) :: (q31, .inl (cI, 40, .inl (nf (fun _ => 0)))) :: (q23, .inl (cI, 8, .inl (nf (fun _ => 0)))) :: (q15, .inl (cI, 8, .inl (nf (fun _ => 0)))) :: (q7, .inl (cI, 8, .inl (nf (fun _ => 0)))) :: (m_, .inr (5, [.int (nI (kN x)), .ref q7, .ref q15, .ref q23, .long 0, .int 0, .ref q31, .ref q40, .long 1, .ref q52, .int 0, .ref q61, .ref q70, .int 0, .int 0, .ref q78, .ref q87])) :: R) H := hP
    have hD : va_D A ((q87, .inl (cI, 256, .inl (nf (fun _ => 0)))) :: (q78, .inl (cI, 8, .inl (nf (fun _ => 0)))) :: (q70, .inl (cI, 400, .inl (nf (fun _ => 0)))) :: (q61, .inl (cI, 256, .inl (nf (fun _ => 0)))) :: (q52, .inl (cJ, 4, .inr (.inl (fun _ => 0)))) :: (q40, .inl (cI, 320, .inl (nf (fun _ => 0)))) :: (q31, .inl (cI, 40, .inl (nf (fun _ => 0)))) :: (q23, .inl (cI, 8, .inl (nf (fun _ => 0)))) :: (q15, .inl (cI, 8, .inl (nf (fun _ => 0)))) :: (q7, .inl (cI, 8, .inl (nf (fun _ => 0)))) :: (m_, .inr (5, [.int (nI (kN x)), .ref q7, .ref q15, .ref q23, .long 0, .int 0, .ref q31, .ref q40, .long 1, .ref q52, .int 0, .ref q61, .ref q70, .int 0, .int 0, .ref q78, .ref q87])) :: R) := hD
    have hP := pm_10_9_8_7_6_5_4_3_2_1_0_P hP
    have hD := pm_10_9_8_7_6_5_4_3_2_1_0_D hD
    have hP : va_P D vwCl ((m_, .inr (5, [.int (nI (kN x)), .ref q7, .ref q15, .ref q23, .long 0, .int 0, .ref q31, .ref q40, .long 1, .ref q52, .int 0, .ref q61, .ref q70, .int 0, .int 0, .ref q78, .ref q87])) :: (q7, .inl (cI, 8, .inl (nf (fun _ => 0)))) :: (q15, .inl (cI, 8, .inl (nf (fu (fun _ => 255) (fun _ => 0) 0)))) :: (q23, .inl (cI, 8, .inl (nf (fun _ => 0)))) :: (q31, .inl (cI, 40, .inl (nf (fun _ => 0)))) :: (q40, .inl (cI, 320, .inl (nf (fun _ => 0)))) :: (q52, .inl (cJ, 4, .inr (.inl (fun _ => 0)))) :: (q61, .inl (cI, 256, .inl (nf (fun _ => 0)))) :: (q70, .inl (cI, 400, .inl (nf (fun _ => 0)))) :: (q78, .inl (cI, 8, .inl (nf (fun _ => 0)))) :: (q87, .inl (cI, 256, .inl (nf (fun _ => 0)))) :: R) H := by rw [fu_0 (g := fun _ => 255)]; exact hP
    have hD : va_D A ((m_, .inr (5, [.int (nI (kN x)), .ref q7, .ref q15, .ref q23, .long 0, .int 0, .ref q31, .ref q40, .long 1, .ref q52, .int 0, .ref q61, .ref q70, .int 0, .int 0, .ref q78, .ref q87])) :: (q7, .inl (cI, 8, .inl (nf (fun _ => 0)))) :: (q15, .inl (cI, 8, .inl (nf (fu (fun _ => 255) (fun _ => 0) 0)))) :: (q23, .inl (cI, 8, .inl (nf (fun _ => 0)))) :: (q31, .inl (cI, 40, .inl (nf (fun _ => 0)))) :: (q40, .inl (cI, 320, .inl (nf (fun _ => 0)))) :: (q52, .inl (cJ, 4, .inr (.inl (fun _ => 0)))) :: (q61, .inl (cI, 256, .inl (nf (fun _ => 0)))) :: (q70, .inl (cI, 400, .inl (nf (fun _ => 0)))) :: (q78, .inl (cI, 8, .inl (nf (fun _ => 0)))) :: (q87, .inl (cI, 256, .inl (nf (fun _ => 0)))) :: R) := by rw [fu_0 (g := fun _ => 255)]; exact hD
    refine lv_iconst (v := 0) hx hb dX4_init_111 (by decide) ?_
    refine lv_istore_n (lv' := [(2, .int 0), (0, .ref m_), (1, .int x)]) hx hb dX4_init_112 rfl hl (by decide) rfl (fun ls hl => ?_)
    have L_113 : ∀ (n_113 : Nat) (i : Nat) (hi : i ≤ 8), 8 - i < n_113 → ∀ (H : Heap) (locs : List Loc) (ls : Array Slot), va_P D vwCl ((m_, .inr (5, [.int (nI (kN x)), .ref q7, .ref q15, .ref q23, .long 0, .int 0, .ref q31, .ref q40, .long 1, .ref q52, .int 0, .ref q61, .ref q70, .int 0, .int 0, .ref q78, .ref q87])) :: (q7, .inl (cI, 8, .inl (nf (fun _ => 0)))) :: (q15, .inl (cI, 8, .inl (nf (fu (fun _ => 255) (fun _ => 0) i)))) :: (q23, .inl (cI, 8, .inl (nf (fun _ => 0)))) :: (q31, .inl (cI, 40, .inl (nf (fun _ => 0)))) :: (q40, .inl (cI, 320, .inl (nf (fun _ => 0)))) :: (q52, .inl (cJ, 4, .inr (.inl (fun _ => 0)))) :: (q61, .inl (cI, 256, .inl (nf (fun _ => 0)))) :: (q70, .inl (cI, 400, .inl (nf (fun _ => 0)))) :: (q78, .inl (cI, 8, .inl (nf (fun _ => 0)))) :: (q87, .inl (cI, 256, .inl (nf (fun _ => 0)))) :: R) H → va_D A ((m_, .inr (5, [.int (nI (kN x)), .ref q7, .ref q15, .ref q23, .long 0, .int 0, .ref q31, .ref q40, .long 1, .ref q52, .int 0, .ref q61, .ref q70, .int 0, .int 0, .ref q78, .ref q87])) :: (q7, .inl (cI, 8, .inl (nf (fun _ => 0)))) :: (q15, .inl (cI, 8, .inl (nf (fu (fun _ => 255) (fun _ => 0) i)))) :: (q23, .inl (cI, 8, .inl (nf (fun _ => 0)))) :: (q31, .inl (cI, 40, .inl (nf (fun _ => 0)))) :: (q40, .inl (cI, 320, .inl (nf (fun _ => 0)))) :: (q52, .inl (cJ, 4, .inr (.inl (fun _ => 0)))) :: (q61, .inl (cI, 256, .inl (nf (fun _ => 0)))) :: (q70, .inl (cI, 400, .inl (nf (fun _ => 0)))) :: (q78, .inl (cI, 8, .inl (nf (fun _ => 0)))) :: (q87, .inl (cI, 256, .inl (nf (fun _ => 0)))) :: R) → va_S A s.heap H locs → lv_has ls 3 [(2, .int (nI i)), (0, .ref m_)] → W p l e (headSpec wsX4_init rX4_init).room s m ([.ref m_, .int x] : List Value).toArray below meth c H locs 10 1308 Q (F0 m 113 ls []) := by
      intro n_113
      induction n_113 with
      | zero => intro i hi hn_; exact absurd hn_ (Nat.not_lt_zero _)
      | succ n_113 ih_113 =>
        intro i hi hn_113 H locs ls hP hD hS hl
        refine lv_iload_n hx hb dX4_init_113 rfl (lv_at hl 0 rfl) ?_
        refine lv_bipush (v := 8) hx hb dX4_init_114 (by decide) ?_
        refine lv_icmp_ge (tgt := 134) hx hb dX4_init_116 (by decide) (fun c116 => ?_) (fun c116 => ?_)
        · skip
          have hE116 := lp_e (n := 8) c116 hi
          subst hE116
          have hP := wh_P hP
          have hD := wh_D (g := nf (fun _ => 255)) hD
          subst hQe
          subst hAe
          subst hsz
          exact g_vret hx hb hr hlocks (q7, q15, q23, q31, q40, q52, q61, q70, q78, q87) trivial hP hK hD hS dX4_init_134
        · skip
          have hi8 := lp_l (n := 8) c116 hi
          refine lv_aload_n hx hb dX4_init_119 rfl (lv_at hl 1 rfl) ?_
          refine va_get (D := D) (ci := 5) (v := .ref q15) (C := RX4) (T := TX4) (N := 17) hx hb hts in_X4 hown hK hP 0 rfl rfl 2 (by decide) f_13 (fun _ h9 => h9) rfl dX4_init_120 ?_
          refine lv_iload_n hx hb dX4_init_123 rfl (lv_at hl 0 rfl) ?_
          refine lv_sipush (v := 255) hx hb dX4_init_124 (by decide) ?_
          refine va_iast hx hb hK hP hD hS 2 0 rfl rfl (by first | exact vp_in_nI (by omega) (by omega) | assumption) dX4_init_127 (fun H locs hP hD hS => ?_)
          rw [nI_clamp (by omega)] at hP hD
          have hP : va_P D vwCl ((m_, .inr (5, [.int (nI (kN x)), .ref q7, .ref q15, .ref q23, .long 0, .int 0, .ref q31, .ref q40, .long 1, .ref q52, .int 0, .ref q61, .ref q70, .int 0, .int 0, .ref q78, .ref q87])) :: (q7, .inl (cI, 8, .inl (nf (fun _ => 0)))) :: (q15, .inl (cI, 8, .inl (upd (nf (fu (fun _ => 255) (fun _ => 0) i)) i 255))) :: (q23, .inl (cI, 8, .inl (nf (fun _ => 0)))) :: (q31, .inl (cI, 40, .inl (nf (fun _ => 0)))) :: (q40, .inl (cI, 320, .inl (nf (fun _ => 0)))) :: (q52, .inl (cJ, 4, .inr (.inl (fun _ => 0)))) :: (q61, .inl (cI, 256, .inl (nf (fun _ => 0)))) :: (q70, .inl (cI, 400, .inl (nf (fun _ => 0)))) :: (q78, .inl (cI, 8, .inl (nf (fun _ => 0)))) :: (q87, .inl (cI, 256, .inl (nf (fun _ => 0)))) :: R) H := hP
          have hD : va_D A ((m_, .inr (5, [.int (nI (kN x)), .ref q7, .ref q15, .ref q23, .long 0, .int 0, .ref q31, .ref q40, .long 1, .ref q52, .int 0, .ref q61, .ref q70, .int 0, .int 0, .ref q78, .ref q87])) :: (q7, .inl (cI, 8, .inl (nf (fun _ => 0)))) :: (q15, .inl (cI, 8, .inl (upd (nf (fu (fun _ => 255) (fun _ => 0) i)) i 255))) :: (q23, .inl (cI, 8, .inl (nf (fun _ => 0)))) :: (q31, .inl (cI, 40, .inl (nf (fun _ => 0)))) :: (q40, .inl (cI, 320, .inl (nf (fun _ => 0)))) :: (q52, .inl (cJ, 4, .inr (.inl (fun _ => 0)))) :: (q61, .inl (cI, 256, .inl (nf (fun _ => 0)))) :: (q70, .inl (cI, 400, .inl (nf (fun _ => 0)))) :: (q78, .inl (cI, 8, .inl (nf (fun _ => 0)))) :: (q87, .inl (cI, 256, .inl (nf (fun _ => 0)))) :: R) := hD
          have hW_ : upd (nf (fu (fun _ => 255) (fun _ => 0) i)) i 255 = nf (fu (fun _ => 255) (fun _ => 0) (i + 1)) := by rw [show (255 : Int32) = nI 255 from rfl, nf_upd]; exact congrArg nf (fu_s (g := fun _ => 255))
          rw [hW_] at hP hD
          have hP : va_P D vwCl ((m_, .inr (5, [.int (nI (kN x)), .ref q7, .ref q15, .ref q23, .long 0, .int 0, .ref q31, .ref q40, .long 1, .ref q52, .int 0, .ref q61, .ref q70, .int 0, .int 0, .ref q78, .ref q87])) :: (q7, .inl (cI, 8, .inl (nf (fun _ => 0)))) :: (q15, .inl (cI, 8, .inl (nf (fu (fun _ => 255) (fun _ => 0) (i + 1))))) :: (q23, .inl (cI, 8, .inl (nf (fun _ => 0)))) :: (q31, .inl (cI, 40, .inl (nf (fun _ => 0)))) :: (q40, .inl (cI, 320, .inl (nf (fun _ => 0)))) :: (q52, .inl (cJ, 4, .inr (.inl (fun _ => 0)))) :: (q61, .inl (cI, 256, .inl (nf (fun _ => 0)))) :: (q70, .inl (cI, 400, .inl (nf (fun _ => 0)))) :: (q78, .inl (cI, 8, .inl (nf (fun _ => 0)))) :: (q87, .inl (cI, 256, .inl (nf (fun _ => 0)))) :: R) H := hP
          have hD : va_D A ((m_, .inr (5, [.int (nI (kN x)), .ref q7, .ref q15, .ref q23, .long 0, .int 0, .ref q31, .ref q40, .long 1, .ref q52, .int 0, .ref q61, .ref q70, .int 0, .int 0, .ref q78, .ref q87])) :: (q7, .inl (cI, 8, .inl (nf (fun _ => 0)))) :: (q15, .inl (cI, 8, .inl (nf (fu (fun _ => 255) (fun _ => 0) (i + 1))))) :: (q23, .inl (cI, 8, .inl (nf (fun _ => 0)))) :: (q31, .inl (cI, 40, .inl (nf (fun _ => 0)))) :: (q40, .inl (cI, 320, .inl (nf (fun _ => 0)))) :: (q52, .inl (cJ, 4, .inr (.inl (fun _ => 0)))) :: (q61, .inl (cI, 256, .inl (nf (fun _ => 0)))) :: (q70, .inl (cI, 400, .inl (nf (fun _ => 0)))) :: (q78, .inl (cI, 8, .inl (nf (fun _ => 0)))) :: (q87, .inl (cI, 256, .inl (nf (fun _ => 0)))) :: R) := hD
          obtain ⟨x128, ex128⟩ : ∃ y : Int32, y = (nI i) + 1 := ⟨_, rfl⟩
          refine lv_iinc (v := x128) (lv' := [(2, .int x128), (0, .ref m_)]) hx hb dX4_init_128 hl (k := 0) rfl (by rw [ex128]; rfl) (by decide) rfl (fun ls hl => ?_)
          obtain rfl : x128 = nI (i + 1) := by rw [ex128]; exact nI_1 _
          refine lv_goto (tgt := 113) hx hb dX4_init_131 (by decide) ?_
          exact ih_113 (i + 1) (by omega) (by omega) H locs ls hP hD hS (lv_sub hl [0, 1] rfl)
    exact L_113 _ 0 (Nat.zero_le _) (Nat.lt_succ_self _) H locs ls hP hD hS (lv_sub hl [0, 1] rfl)
  refine lv_icmp_lt (tgt := 107) hx hb dX4_init_95 (by decide) (fun c95 => ?_) (fun c95 => ?_)
  · skip
    refine lv_iconst (v := 1) hx hb dX4_init_107 (by decide) ?_
    exact J_108 1 (by first | (rw [kN_lo c95]; rfl) | (rw [kN_hi c100]; rfl)) H locs ls hP hD hS (lv_sub hl [0, 1] rfl)
  · skip
    refine lv_iload_n hx hb dX4_init_98 rfl (lv_at hl 1 rfl) ?_
    refine lv_iconst (v := 4) hx hb dX4_init_99 (by decide) ?_
    refine lv_icmp_gt (tgt := 107) hx hb dX4_init_100 (by decide) (fun c100 => ?_) (fun c100 => ?_)
    · skip
      refine lv_iconst (v := 1) hx hb dX4_init_107 (by decide) ?_
      exact J_108 1 (by first | (rw [kN_lo c95]; rfl) | (rw [kN_hi c100]; rfl)) H locs ls hP hD hS (lv_sub hl [0, 1] rfl)
    · skip
      refine lv_iload_n hx hb dX4_init_103 rfl (lv_at hl 1 rfl) ?_
      refine lv_goto (tgt := 108) hx hb dX4_init_104 (by decide) ?_
      exact J_108 x (kN_in c95 c100) H locs ls hP hD hS (lv_sub hl [0, 1] rfl)
