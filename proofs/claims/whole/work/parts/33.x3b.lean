theorem pm_1_2_3_4_17_0_5_6_7_8_9_10_11_12_13_14_15_16_18_19_P {D : va_G} {cl : List vw_C} {H : Heap} {x0 x1 x2 x3 x4 x5 x6 x7 x8 x9 x10 x11 x12 x13 x14 x15 x16 x17 x18 x19 : Nat × va_E} {T : va_W} (h : va_P D cl (x0 :: x1 :: x2 :: x3 :: x4 :: x5 :: x6 :: x7 :: x8 :: x9 :: x10 :: x11 :: x12 :: x13 :: x14 :: x15 :: x16 :: x17 :: x18 :: x19 :: T) H) : va_P D cl (x1 :: x2 :: x3 :: x4 :: x17 :: x0 :: x5 :: x6 :: x7 :: x8 :: x9 :: x10 :: x11 :: x12 :: x13 :: x14 :: x15 :: x16 :: x18 :: x19 :: T) H := va_P.part (X := [x0, x1, x2, x3, x4, x5, x6, x7, x8, x9, x10, x11, x12, x13, x14, x15, x16, x17, x18, x19]) (pl := T) (cx := [x1, x2, x3, x4, x17, x0, x5, x6, x7, x8, x9, x10, x11, x12, x13, x14, x15, x16, x18, x19]) h [1, 2, 3, 4, 17, 0, 5, 6, 7, 8, 9, 10, 11, 12, 13, 14, 15, 16, 18, 19] rfl
theorem pm_1_2_3_4_17_0_5_6_7_8_9_10_11_12_13_14_15_16_18_19_D {A : Nat → Prop} {x0 x1 x2 x3 x4 x5 x6 x7 x8 x9 x10 x11 x12 x13 x14 x15 x16 x17 x18 x19 : Nat × va_E} {T : va_W} (h : va_D A (x0 :: x1 :: x2 :: x3 :: x4 :: x5 :: x6 :: x7 :: x8 :: x9 :: x10 :: x11 :: x12 :: x13 :: x14 :: x15 :: x16 :: x17 :: x18 :: x19 :: T)) : va_D A (x1 :: x2 :: x3 :: x4 :: x17 :: x0 :: x5 :: x6 :: x7 :: x8 :: x9 :: x10 :: x11 :: x12 :: x13 :: x14 :: x15 :: x16 :: x18 :: x19 :: T) := va_D.part (X := [x0, x1, x2, x3, x4, x5, x6, x7, x8, x9, x10, x11, x12, x13, x14, x15, x16, x17, x18, x19]) (pl := T) (cx := [x1, x2, x3, x4, x17, x0, x5, x6, x7, x8, x9, x10, x11, x12, x13, x14, x15, x16, x18, x19]) h [1, 2, 3, 4, 17, 0, 5, 6, 7, 8, 9, 10, 11, 12, 13, 14, 15, 16, 18, 19] (by decide) rfl
theorem pm_5_0_1_2_3_6_7_8_9_10_11_12_13_14_15_16_17_4_18_19_P {D : va_G} {cl : List vw_C} {H : Heap} {x0 x1 x2 x3 x4 x5 x6 x7 x8 x9 x10 x11 x12 x13 x14 x15 x16 x17 x18 x19 : Nat × va_E} {T : va_W} (h : va_P D cl (x0 :: x1 :: x2 :: x3 :: x4 :: x5 :: x6 :: x7 :: x8 :: x9 :: x10 :: x11 :: x12 :: x13 :: x14 :: x15 :: x16 :: x17 :: x18 :: x19 :: T) H) : va_P D cl (x5 :: x0 :: x1 :: x2 :: x3 :: x6 :: x7 :: x8 :: x9 :: x10 :: x11 :: x12 :: x13 :: x14 :: x15 :: x16 :: x17 :: x4 :: x18 :: x19 :: T) H := va_P.part (X := [x0, x1, x2, x3, x4, x5, x6, x7, x8, x9, x10, x11, x12, x13, x14, x15, x16, x17, x18, x19]) (pl := T) (cx := [x5, x0, x1, x2, x3, x6, x7, x8, x9, x10, x11, x12, x13, x14, x15, x16, x17, x4, x18, x19]) h [5, 0, 1, 2, 3, 6, 7, 8, 9, 10, 11, 12, 13, 14, 15, 16, 17, 4, 18, 19] rfl
theorem pm_5_0_1_2_3_6_7_8_9_10_11_12_13_14_15_16_17_4_18_19_D {A : Nat → Prop} {x0 x1 x2 x3 x4 x5 x6 x7 x8 x9 x10 x11 x12 x13 x14 x15 x16 x17 x18 x19 : Nat × va_E} {T : va_W} (h : va_D A (x0 :: x1 :: x2 :: x3 :: x4 :: x5 :: x6 :: x7 :: x8 :: x9 :: x10 :: x11 :: x12 :: x13 :: x14 :: x15 :: x16 :: x17 :: x18 :: x19 :: T)) : va_D A (x5 :: x0 :: x1 :: x2 :: x3 :: x6 :: x7 :: x8 :: x9 :: x10 :: x11 :: x12 :: x13 :: x14 :: x15 :: x16 :: x17 :: x4 :: x18 :: x19 :: T) := va_D.part (X := [x0, x1, x2, x3, x4, x5, x6, x7, x8, x9, x10, x11, x12, x13, x14, x15, x16, x17, x18, x19]) (pl := T) (cx := [x5, x0, x1, x2, x3, x6, x7, x8, x9, x10, x11, x12, x13, x14, x15, x16, x17, x4, x18, x19]) h [5, 0, 1, 2, 3, 6, 7, 8, 9, 10, 11, 12, 13, 14, 15, 16, 17, 4, 18, 19] (by decide) rfl
abbrev rX3_lookAtNow : Room := { frames := 3, cells := 0, slots := 0, locals := 66 }
set_option maxHeartbeats 4000000 in
set_option maxRecDepth 100000 in
theorem c_X3_lookAtNow (l : Launch) (D : va_G) (cI cJ cG : ClassId) (sz : Nat) (R : va_W) (h_ c_ d_ w_ v_ t_ rk_ ro_ rc_ al_ b_ ka_ na_ jo_ me_ wo_ fd_ nr_ nc_ sc_ : Nat) (ar ac : Nat → Nat) (K : Nat) (n : Nat) (dn : Nat → Nat) (wn : Nat → Nat) (vn : Nat → Nat) (tk : Int64) (kn : Nat → Nat) (M : Nat → Nat → Nat) (C : Nat → Nat → Nat) (al : Nat → Nat) (kd : Nat → Nat) (me : Nat → Nat) (px : Nat) (pcs : Nat) (bt : Bst) (wo : Nat → Int64) (le : Int64) (F : Nat → Nat) (fc : Nat) (nr : Nat → Nat) (nc : Nat → Nat) (sc : Nat → Nat) (hI : HI K n dn wn vn kn M C kd px pcs bt F fc nr nc) : Met l yX3_lookAtNow wsX3_lookAtNow rX3_lookAtNow (gP D (tyl cI cJ cG) [.ref h_] (hwW cI cJ cG R h_ c_ d_ w_ v_ t_ rk_ ro_ rc_ al_ b_ ka_ na_ jo_ me_ wo_ fd_ nr_ nc_ sc_ ar ac K n dn wn vn tk kn M C al kd me px pcs bt wo le F fc nr nc sc) sz) (gQv D (tyl cI cJ cG) (hwW cI cJ cG R h_ c_ d_ w_ v_ t_ rk_ ro_ rc_ al_ b_ ka_ na_ jo_ me_ wo_ fd_ nr_ nc_ sc_ ar ac K n dn wn vn tk kn M C al kd me px pcs bt wo le F fc nr nc sc) sz (fun (_ : Unit) => True) (fun _ => (hwW cI cJ cG R h_ c_ d_ w_ v_ t_ rk_ ro_ rc_ al_ b_ ka_ na_ jo_ me_ wo_ fd_ nr_ nc_ sc_ ar ac K n dn wn vn tk kn M C al kd me px pcs bt wo le F fc (fu (rwN dn wn vn) nr 8) (fu (ceN (fu (rwN dn wn vn) nr 8)) nc 7) sc))) 0 0 (va_A (hwW cI cJ cG R h_ c_ d_ w_ v_ t_ rk_ ro_ rc_ al_ b_ ka_ na_ jo_ me_ wo_ fd_ nr_ nc_ sc_ ar ac K n dn wn vn tk kn M C al kd me px pcs bt wo le F fc nr nc sc) sz) := by
  refine gMet (cc := cX3_lookAtNow) (maxL := 1) (ret := none) (ls0 := [(0, .ref h_)]) (by decide) rfl (Nat.le_of_ble_eq_true rfl) rfl ?_
  intro p e s m below meth c hx hb hr hts hown hlocks hml hname A hA hAe hsz Q hQe H locs hP hK hD hS ls hl
  have hown : s.vm.findClass RX3 = some m.cls := hown
  have in_X3 : ∀ w ∈ wsX30, w ∈ wsX3_lookAtNow := by decide +kernel
  have f_16 := hts (.fieldLink RX3 16 "SpectrumHeads" "channels" "LSpectrumHeads$Channels;") (by decide +kernel)
  have f_51 := hts (.fieldLink RX3 51 "SpectrumHeads" "nowRow" "[I") (by decide +kernel)
  have f_54 := hts (.fieldLink RX3 54 "SpectrumHeads" "nowCells" "[I") (by decide +kernel)
  obtain ⟨⟨hK1, hK4⟩, hn, ⟨hdn, hwn, hvn⟩, ⟨hkn, hM, hC⟩, ⟨hkd, hpx, hpcs, hbt⟩, ⟨hF, hfc⟩, ⟨hnr, hnc⟩⟩ := id hI
  refine lv_aload_n hx hb dX3_lookAtNow_0 rfl (lv_at hl 0 rfl) ?_
  refine va_get (D := D) (ci := 4) (v := .ref c_) (C := RX3) (T := TX3) (N := 11) hx hb hts in_X3 hown hK hP 0 rfl rfl 1 (by decide) f_16 (fun _ h9 => h9) rfl dX3_lookAtNow_1 ?_
  refine lv_aload_n hx hb dX3_lookAtNow_4 rfl (lv_at hl 0 rfl) ?_
  refine va_get (D := D) (ci := 4) (v := .ref nr_) (C := RX3) (T := TX3) (N := 11) hx hb hts in_X3 hown hK hP 0 rfl rfl 8 (by decide) f_51 (fun _ h9 => h9) rfl dX3_lookAtNow_5 ?_
  have hP := pm_1_2_3_4_17_0_5_6_7_8_9_10_11_12_13_14_15_16_18_19_P hP
  have hD := pm_1_2_3_4_17_0_5_6_7_8_9_10_11_12_13_14_15_16_18_19_D hD
  refine gc_Vv (As := [.ref nr_]) (rest := []) (ci := 2) (q0 := 0) ⟨hx, hb, hml, hown, hts⟩ (c_X1_fillRow l D cI cJ cG H.size _ c_ d_ w_ v_ dn wn vn tk nr_ nr hdn hwn hvn) (cwV 1 hts gX3_lookAtNow_X1_fillRow rfl rfl rfl (by decide +kernel) ⟨Nat.le_of_ble_eq_true rfl, Nat.le_of_ble_eq_true rfl⟩) rfl rfl rfl hK hP hD hS hA rfl hl.1 rfl (Nat.le_of_ble_eq_true rfl) dX3_lookAtNow_8 ⟨Nat.le_of_ble_eq_true rfl, Nat.le_of_ble_eq_true rfl⟩ (fun u8 H locs h8 hP hD hS => ?_)
  have hP := pm_5_0_1_2_3_6_7_8_9_10_11_12_13_14_15_16_17_4_18_19_P hP
  have hD := pm_5_0_1_2_3_6_7_8_9_10_11_12_13_14_15_16_17_4_18_19_D hD
  have hP : va_P D vwCl (hwW cI cJ cG R h_ c_ d_ w_ v_ t_ rk_ ro_ rc_ al_ b_ ka_ na_ jo_ me_ wo_ fd_ nr_ nc_ sc_ ar ac K n dn wn vn tk kn M C al kd me px pcs bt wo le F fc (fu (rwN dn wn vn) nr 8) nc sc) H := hP
  have hD : va_D A (hwW cI cJ cG R h_ c_ d_ w_ v_ t_ rk_ ro_ rc_ al_ b_ ka_ na_ jo_ me_ wo_ fd_ nr_ nc_ sc_ ar ac K n dn wn vn tk kn M C al kd me px pcs bt wo le F fc (fu (rwN dn wn vn) nr 8) nc sc) := hD
  refine lv_aload_n hx hb dX3_lookAtNow_11 rfl (lv_at hl 0 rfl) ?_
  refine va_get (D := D) (ci := 4) (v := .ref nr_) (C := RX3) (T := TX3) (N := 11) hx hb hts in_X3 hown hK hP 0 rfl rfl 8 (by decide) f_51 (fun _ h9 => h9) rfl dX3_lookAtNow_12 ?_
  refine lv_aload_n hx hb dX3_lookAtNow_15 rfl (lv_at hl 0 rfl) ?_
  refine va_get (D := D) (ci := 4) (v := .ref nc_) (C := RX3) (T := TX3) (N := 11) hx hb hts in_X3 hown hK hP 0 rfl rfl 9 (by decide) f_54 (fun _ h9 => h9) rfl dX3_lookAtNow_16 ?_
  refine gc_Sv (As := [.ref nr_, .ref nc_]) (rest := []) ⟨hx, hb, hml, hown, hts⟩ (c_X2_fillCells l D cI cJ cG H.size (hwW cI cJ cG R h_ c_ d_ w_ v_ t_ rk_ ro_ rc_ al_ b_ ka_ na_ jo_ me_ wo_ fd_ nr_ nc_ sc_ ar ac K n dn wn vn tk kn M C al kd me px pcs bt wo le F fc (fu (rwN dn wn vn) nr 8) nc sc) nr_ nc_ 17 18 (fu (rwN dn wn vn) nr 8) nc rfl rfl (by decide) (nr_le hnr)) (va_cwS 2 hts gX3_lookAtNow_X2_fillCells rfl rfl rfl (by decide +kernel) ⟨Nat.le_of_ble_eq_true rfl, Nat.le_of_ble_eq_true rfl⟩) hK hP hD hS hA rfl hl.1 rfl (Nat.le_of_ble_eq_true rfl) dX3_lookAtNow_19 ⟨Nat.le_of_ble_eq_true rfl, Nat.le_of_ble_eq_true rfl⟩ (fun u19 H locs h19 hP hD hS => ?_)
  have hP : va_P D vwCl (hwW cI cJ cG R h_ c_ d_ w_ v_ t_ rk_ ro_ rc_ al_ b_ ka_ na_ jo_ me_ wo_ fd_ nr_ nc_ sc_ ar ac K n dn wn vn tk kn M C al kd me px pcs bt wo le F fc (fu (rwN dn wn vn) nr 8) (fu (ceN (fu (rwN dn wn vn) nr 8)) nc 7) sc) H := hP
  have hD : va_D A (hwW cI cJ cG R h_ c_ d_ w_ v_ t_ rk_ ro_ rc_ al_ b_ ka_ na_ jo_ me_ wo_ fd_ nr_ nc_ sc_ ar ac K n dn wn vn tk kn M C al kd me px pcs bt wo le F fc (fu (rwN dn wn vn) nr 8) (fu (ceN (fu (rwN dn wn vn) nr 8)) nc 7) sc) := hD
  subst hQe
  subst hAe
  subst hsz
  exact g_vret hx hb hr hlocks () trivial hP hK hD hS dX3_lookAtNow_22
theorem pm_0_15_19_1_2_3_4_5_6_7_8_9_10_11_12_13_14_16_17_18_P {D : va_G} {cl : List vw_C} {H : Heap} {x0 x1 x2 x3 x4 x5 x6 x7 x8 x9 x10 x11 x12 x13 x14 x15 x16 x17 x18 x19 : Nat × va_E} {T : va_W} (h : va_P D cl (x0 :: x1 :: x2 :: x3 :: x4 :: x5 :: x6 :: x7 :: x8 :: x9 :: x10 :: x11 :: x12 :: x13 :: x14 :: x15 :: x16 :: x17 :: x18 :: x19 :: T) H) : va_P D cl (x0 :: x15 :: x19 :: x1 :: x2 :: x3 :: x4 :: x5 :: x6 :: x7 :: x8 :: x9 :: x10 :: x11 :: x12 :: x13 :: x14 :: x16 :: x17 :: x18 :: T) H := va_P.part (X := [x0, x1, x2, x3, x4, x5, x6, x7, x8, x9, x10, x11, x12, x13, x14, x15, x16, x17, x18, x19]) (pl := T) (cx := [x0, x15, x19, x1, x2, x3, x4, x5, x6, x7, x8, x9, x10, x11, x12, x13, x14, x16, x17, x18]) h [0, 15, 19, 1, 2, 3, 4, 5, 6, 7, 8, 9, 10, 11, 12, 13, 14, 16, 17, 18] rfl
theorem pm_0_15_19_1_2_3_4_5_6_7_8_9_10_11_12_13_14_16_17_18_D {A : Nat → Prop} {x0 x1 x2 x3 x4 x5 x6 x7 x8 x9 x10 x11 x12 x13 x14 x15 x16 x17 x18 x19 : Nat × va_E} {T : va_W} (h : va_D A (x0 :: x1 :: x2 :: x3 :: x4 :: x5 :: x6 :: x7 :: x8 :: x9 :: x10 :: x11 :: x12 :: x13 :: x14 :: x15 :: x16 :: x17 :: x18 :: x19 :: T)) : va_D A (x0 :: x15 :: x19 :: x1 :: x2 :: x3 :: x4 :: x5 :: x6 :: x7 :: x8 :: x9 :: x10 :: x11 :: x12 :: x13 :: x14 :: x16 :: x17 :: x18 :: T) := va_D.part (X := [x0, x1, x2, x3, x4, x5, x6, x7, x8, x9, x10, x11, x12, x13, x14, x15, x16, x17, x18, x19]) (pl := T) (cx := [x0, x15, x19, x1, x2, x3, x4, x5, x6, x7, x8, x9, x10, x11, x12, x13, x14, x16, x17, x18]) h [0, 15, 19, 1, 2, 3, 4, 5, 6, 7, 8, 9, 10, 11, 12, 13, 14, 16, 17, 18] (by decide) rfl
theorem pm_0_3_4_5_6_7_8_9_10_11_12_13_14_15_16_1_17_18_19_2_P {D : va_G} {cl : List vw_C} {H : Heap} {x0 x1 x2 x3 x4 x5 x6 x7 x8 x9 x10 x11 x12 x13 x14 x15 x16 x17 x18 x19 : Nat × va_E} {T : va_W} (h : va_P D cl (x0 :: x1 :: x2 :: x3 :: x4 :: x5 :: x6 :: x7 :: x8 :: x9 :: x10 :: x11 :: x12 :: x13 :: x14 :: x15 :: x16 :: x17 :: x18 :: x19 :: T) H) : va_P D cl (x0 :: x3 :: x4 :: x5 :: x6 :: x7 :: x8 :: x9 :: x10 :: x11 :: x12 :: x13 :: x14 :: x15 :: x16 :: x1 :: x17 :: x18 :: x19 :: x2 :: T) H := va_P.part (X := [x0, x1, x2, x3, x4, x5, x6, x7, x8, x9, x10, x11, x12, x13, x14, x15, x16, x17, x18, x19]) (pl := T) (cx := [x0, x3, x4, x5, x6, x7, x8, x9, x10, x11, x12, x13, x14, x15, x16, x1, x17, x18, x19, x2]) h [0, 3, 4, 5, 6, 7, 8, 9, 10, 11, 12, 13, 14, 15, 16, 1, 17, 18, 19, 2] rfl
theorem pm_0_3_4_5_6_7_8_9_10_11_12_13_14_15_16_1_17_18_19_2_D {A : Nat → Prop} {x0 x1 x2 x3 x4 x5 x6 x7 x8 x9 x10 x11 x12 x13 x14 x15 x16 x17 x18 x19 : Nat × va_E} {T : va_W} (h : va_D A (x0 :: x1 :: x2 :: x3 :: x4 :: x5 :: x6 :: x7 :: x8 :: x9 :: x10 :: x11 :: x12 :: x13 :: x14 :: x15 :: x16 :: x17 :: x18 :: x19 :: T)) : va_D A (x0 :: x3 :: x4 :: x5 :: x6 :: x7 :: x8 :: x9 :: x10 :: x11 :: x12 :: x13 :: x14 :: x15 :: x16 :: x1 :: x17 :: x18 :: x19 :: x2 :: T) := va_D.part (X := [x0, x1, x2, x3, x4, x5, x6, x7, x8, x9, x10, x11, x12, x13, x14, x15, x16, x17, x18, x19]) (pl := T) (cx := [x0, x3, x4, x5, x6, x7, x8, x9, x10, x11, x12, x13, x14, x15, x16, x1, x17, x18, x19, x2]) h [0, 3, 4, 5, 6, 7, 8, 9, 10, 11, 12, 13, 14, 15, 16, 1, 17, 18, 19, 2] (by decide) rfl
abbrev rX3_readCells : Room := { frames := 2, cells := 0, slots := 0, locals := 50 }
set_option maxHeartbeats 4000000 in
set_option maxRecDepth 100000 in
theorem c_X3_readCells (l : Launch) (D : va_G) (cI cJ cG : ClassId) (sz : Nat) (R : va_W) (h_ c_ d_ w_ v_ t_ rk_ ro_ rc_ al_ b_ ka_ na_ jo_ me_ wo_ fd_ nr_ nc_ sc_ : Nat) (ar ac : Nat → Nat) (K : Nat) (n : Nat) (dn : Nat → Nat) (wn : Nat → Nat) (vn : Nat → Nat) (tk : Int64) (kn : Nat → Nat) (M : Nat → Nat → Nat) (C : Nat → Nat → Nat) (al : Nat → Nat) (kd : Nat → Nat) (me : Nat → Nat) (px : Nat) (pcs : Nat) (bt : Bst) (wo : Nat → Int64) (le : Int64) (F : Nat → Nat) (fc : Nat) (nr : Nat → Nat) (nc : Nat → Nat) (sc : Nat → Nat) (ca_ qc : Nat) (fcc : Nat → Nat) (w : Int32) (hqc : ∀ sc : Nat → Nat, (pr cI ar M ++ (pq cI ac C ++ (R ++ [(h_, .inr (4, [.int (nI K), .ref c_, .ref t_, .ref b_, .ref wo_, .long le, .ref fd_, .int (nI fc), .ref nr_, .ref nc_, .ref sc_])), (c_, .inr (2, [.ref d_, .ref w_, .ref v_, .long tk])), (d_, .inl (cI, 8, .inl (nf dn))), (w_, .inl (cI, 8, .inl (nf wn))), (v_, .inl (cI, 8, .inl (nf vn))), (b_, .inr (1, [.ref ka_, .ref na_, .ref jo_, .ref me_, .int (nI bt.2.2), .int (nI px), .int (nI pcs)])), (ka_, .inl (cI, 256, .inl (k2 kd))), (na_, .inl (cI, 256, .inl (l1 bt.1))), (jo_, .inl (cI, 100, .inl (nf bt.2.1))), (me_, .inl (cI, 100, .inl (nf me))), (wo_, .inl (cJ, K, .inr (.inl wo))), (fd_, .inl (cI, 400, .inl (nf F))), (nr_, .inl (cI, 8, .inl (nf nr))), (nc_, .inl (cI, 7, .inl (nf nc))), (sc_, .inl (cJ, K, .inr (.inl (lf sc))))])))[qc]? = some (ca_, .inl (cI, 7, .inl (nf fcc)))) (hfcc : ∀ k, fcc k < 8) (hI : HI K n dn wn vn kn M C kd px pcs bt F fc nr nc) : Met l yX3_readCells wsX3_readCells rX3_readCells (gP D (tyl cI cJ cG) [.ref h_, .ref ca_, .int w] (hwW cI cJ cG R h_ c_ d_ w_ v_ t_ rk_ ro_ rc_ al_ b_ ka_ na_ jo_ me_ wo_ fd_ nr_ nc_ sc_ ar ac K n dn wn vn tk kn M C al kd me px pcs bt wo le F fc nr nc sc) sz) (gQi D (tyl cI cJ cG) (hwW cI cJ cG R h_ c_ d_ w_ v_ t_ rk_ ro_ rc_ al_ b_ ka_ na_ jo_ me_ wo_ fd_ nr_ nc_ sc_ ar ac K n dn wn vn tk kn M C al kd me px pcs bt wo le F fc nr nc sc) sz (fun r (u : (Nat → Nat) × (Nat → Nat)) => r = RD kn C fcc w n wo le K) (fun u => (hwW cI cJ cG R h_ c_ d_ w_ v_ t_ rk_ ro_ rc_ al_ b_ ka_ na_ jo_ me_ wo_ fd_ nr_ nc_ sc_ ar ac K n dn wn vn tk kn M C u.1 kd me px pcs bt wo le F fc nr nc u.2))) 0 0 (va_A (hwW cI cJ cG R h_ c_ d_ w_ v_ t_ rk_ ro_ rc_ al_ b_ ka_ na_ jo_ me_ wo_ fd_ nr_ nc_ sc_ ar ac K n dn wn vn tk kn M C al kd me px pcs bt wo le F fc nr nc sc) sz) := by
  refine gMet (cc := cX3_readCells) (maxL := 4) (ret := (some .int)) (ls0 := [(0, .ref h_), (1, .ref ca_), (2, .int w)]) (by decide) rfl (Nat.le_of_ble_eq_true rfl) rfl ?_
  intro p e s m below meth c hx hb hr hts hown hlocks hml hname A hA hAe hsz Q hQe H locs hP hK hD hS ls hl
  have hown : s.vm.findClass RX3 = some m.cls := hown
  have in_X3 : ∀ w ∈ wsX30, w ∈ wsX3_readCells := by decide +kernel
  have f_9 := hts (.fieldLink RX3 9 "SpectrumHeads" "kinds" "I") (by decide +kernel)
  have f_57 := hts (.fieldLink RX3 57 "SpectrumHeads" "scores" "[J") (by decide +kernel)
  have f_40 := hts (.fieldLink RX3 40 "SpectrumHeads" "least" "J") (by decide +kernel)
  have f_25 := hts (.fieldLink RX3 25 "SpectrumHeads" "table" "LSpectrumHeads$Table;") (by decide +kernel)
  obtain ⟨⟨hK1, hK4⟩, hn, ⟨hdn, hwn, hvn⟩, ⟨hkn, hM, hC⟩, ⟨hkd, hpx, hpcs, hbt⟩, ⟨hF, hfc⟩, ⟨hnr, hnc⟩⟩ := id hI
  refine lv_iconst (v := 0) hx hb dX3_readCells_0 (by decide) ?_
  refine lv_istore_n (lv' := [(3, .int 0), (0, .ref h_), (1, .ref ca_), (2, .int w)]) hx hb dX3_readCells_1 rfl hl (by decide) rfl (fun ls hl => ?_)
  have L_2 : ∀ (n_2 : Nat) (k : Nat) (al1 sc1 : Nat → Nat) (hk : k ≤ K) (hs : ∀ j, j < k → sc1 j = SUM kn C fcc j w n), K - k < n_2 → ∀ (H : Heap) (locs : List Loc) (ls : Array Slot), va_P D vwCl (hwW cI cJ cG R h_ c_ d_ w_ v_ t_ rk_ ro_ rc_ al_ b_ ka_ na_ jo_ me_ wo_ fd_ nr_ nc_ sc_ ar ac K n dn wn vn tk kn M C al1 kd me px pcs bt wo le F fc nr nc sc1) H → va_D A (hwW cI cJ cG R h_ c_ d_ w_ v_ t_ rk_ ro_ rc_ al_ b_ ka_ na_ jo_ me_ wo_ fd_ nr_ nc_ sc_ ar ac K n dn wn vn tk kn M C al1 kd me px pcs bt wo le F fc nr nc sc1) → va_S A s.heap H locs → lv_has ls 4 [(3, .int (nI k)), (0, .ref h_), (1, .ref ca_), (2, .int w)] → W p l e (headSpec wsX3_readCells rX3_readCells).room s m ([.ref h_, .ref ca_, .int w] : List Value).toArray below meth c H locs 0 0 Q (F0 m 2 ls []) := by
    intro n_2
    induction n_2 with
    | zero => intro k al1 sc1 hk hs hn_; exact absurd hn_ (Nat.not_lt_zero _)
    | succ n_2 ih_2 =>
      intro k al1 sc1 hk hs hn_2 H locs ls hP hD hS hl
      refine lv_iload_n hx hb dX3_readCells_2 rfl (lv_at hl 0 rfl) ?_
      refine lv_aload_n hx hb dX3_readCells_3 rfl (lv_at hl 1 rfl) ?_
      refine va_get (D := D) (ci := 4) (v := .int (nI K)) (C := RX3) (T := TX3) (N := 11) hx hb hts in_X3 hown hK hP 0 rfl rfl 0 (by decide) f_9 (fun _ h9 => h9) rfl dX3_readCells_4 ?_
      refine lv_icmp_ge (tgt := 32) hx hb dX3_readCells_7 (by decide) (fun c7 => ?_) (fun c7 => ?_)
      · skip
        have hE7 := lp_e (n := K) c7 hk
        subst hE7
        have hgl := grN_lt (sc := sc1) (wo := wo) K hK1
        refine lv_aload_n hx hb dX3_readCells_32 rfl (lv_at hl 1 rfl) ?_
        have hP := pm_0_15_19_1_2_3_4_5_6_7_8_9_10_11_12_13_14_16_17_18_P hP
        have hD := pm_0_15_19_1_2_3_4_5_6_7_8_9_10_11_12_13_14_16_17_18_D hD
        refine gc_Vi (As := []) (rest := []) (ci := 4) (q0 := 0) ⟨hx, hb, hml, hown, hts⟩ (c_X3_greatest l D cI cJ cG H.size _ h_ c_ t_ b_ wo_ fd_ nr_ nc_ sc_ K fc le wo sc1 hK1 hK4 (fun j hj => by rw [hs j hj]; have := SUM_le (kn := kn) (C := C) (fc := fcc) (kd := j) (w := w) (n := n); omega)) (cwV 0 hts gX3_readCells_X3_greatest rfl rfl rfl (by decide +kernel) ⟨Nat.le_of_ble_eq_true rfl, Nat.le_of_ble_eq_true rfl⟩) rfl rfl rfl hK hP hD hS hA rfl hl.1 rfl (Nat.le_of_ble_eq_true rfl) dX3_readCells_33 ⟨Nat.le_of_ble_eq_true rfl, Nat.le_of_ble_eq_true rfl⟩ (fun r33 u33 H locs h33 hP hD hS => ?_)
        subst h33
        have hP := pm_0_3_4_5_6_7_8_9_10_11_12_13_14_15_16_1_17_18_19_2_P hP
        have hD := pm_0_3_4_5_6_7_8_9_10_11_12_13_14_15_16_1_17_18_19_2_D hD
        have hP : va_P D vwCl (hwW cI cJ cG R h_ c_ d_ w_ v_ t_ rk_ ro_ rc_ al_ b_ ka_ na_ jo_ me_ wo_ fd_ nr_ nc_ sc_ ar ac K n dn wn vn tk kn M C al1 kd me px pcs bt wo le F fc nr nc sc1) H := hP
        have hD : va_D A (hwW cI cJ cG R h_ c_ d_ w_ v_ t_ rk_ ro_ rc_ al_ b_ ka_ na_ jo_ me_ wo_ fd_ nr_ nc_ sc_ ar ac K n dn wn vn tk kn M C al1 kd me px pcs bt wo le F fc nr nc sc1) := hD
        refine lv_istore_n (lv' := [(3, .int (nI (grN sc1 wo K))), (0, .ref h_), (1, .ref ca_), (2, .int w)]) hx hb dX3_readCells_36 rfl hl (by decide) rfl (fun ls hl => ?_)
        refine lv_aload_n hx hb dX3_readCells_37 rfl (lv_at hl 1 rfl) ?_
        refine va_get (D := D) (ci := 4) (v := .ref sc_) (C := RX3) (T := TX3) (N := 11) hx hb hts in_X3 hown hK hP 0 rfl rfl 10 (by decide) f_57 (fun _ h9 => h9) rfl dX3_readCells_38 ?_
        refine lv_iload_n hx hb dX3_readCells_41 rfl (lv_at hl 0 rfl) ?_
        refine va_lald hx hb hK hP (19) 1 rfl rfl (vp_in_nI hgl (by omega)) dX3_readCells_42 ?_
        refine lv_topl (fun x42 ex42 => ?_)
        rw [nI_clamp (by omega)] at ex42
        obtain rfl : x42 = lN (sc1 (grN sc1 wo K)) := by exact ex42
        refine lv_aload_n hx hb dX3_readCells_43 rfl (lv_at hl 1 rfl) ?_
        refine va_get (D := D) (ci := 4) (v := .long le) (C := RX3) (T := TX3) (N := 11) hx hb hts in_X3 hown hK hP 0 rfl rfl 5 (by decide) f_40 (fun _ h9 => h9) rfl dX3_readCells_44 ?_
        refine W.lcmp hx hb dX3_readCells_47 ?_
        refine lv_if_ge (tgt := 55) hx hb dX3_readCells_48 (by decide) (fun c48 => ?_) (fun c48 => ?_)
        · skip
          have hge : ¬ lN (sc1 (grN sc1 wo K)) < le := lg_le_not_lt ((lg_cmp_ge _ _).mp c48)
          refine lv_iload_n hx hb dX3_readCells_55 rfl (lv_at hl 0 rfl) ?_
          subst hQe
          subst hAe
          subst hsz
          exact g_iret hx hb hr hlocks (al1, sc1) (by rw [← RD_of hK1 hs]; first | exact rd_t hge | exact rd_f hlt) hP hK hD hS dX3_readCells_56
        · skip
          have hlt : lN (sc1 (grN sc1 wo K)) < le := l_nle (fun h => c48 ((lg_cmp_ge _ _).mpr h))
          refine lv_iconst (v := -1) hx hb dX3_readCells_51 (by decide) ?_
          refine lv_goto (tgt := 56) hx hb dX3_readCells_52 (by decide) ?_
          subst hQe
          subst hAe
          subst hsz
          exact g_iret hx hb hr hlocks (al1, sc1) (by rw [← RD_of hK1 hs]; first | exact rd_t hge | exact rd_f hlt) hP hK hD hS dX3_readCells_56
      · skip
        have hk8 := lp_l (n := K) c7 hk
        refine lv_aload_n hx hb dX3_readCells_10 rfl (lv_at hl 1 rfl) ?_
        refine va_get (D := D) (ci := 4) (v := .ref sc_) (C := RX3) (T := TX3) (N := 11) hx hb hts in_X3 hown hK hP 0 rfl rfl 10 (by decide) f_57 (fun _ h9 => h9) rfl dX3_readCells_11 ?_
        refine lv_iload_n hx hb dX3_readCells_14 rfl (lv_at hl 0 rfl) ?_
        refine lv_aload_n hx hb dX3_readCells_15 rfl (lv_at hl 1 rfl) ?_
        refine va_get (D := D) (ci := 4) (v := .ref t_) (C := RX3) (T := TX3) (N := 11) hx hb hts in_X3 hown hK hP 0 rfl rfl 2 (by decide) f_25 (fun _ h9 => h9) rfl dX3_readCells_16 ?_
        refine lv_iload_n hx hb dX3_readCells_19 rfl (lv_at hl 0 rfl) ?_
        refine lv_aload_n hx hb dX3_readCells_20 rfl (lv_at hl 2 rfl) ?_
        refine lv_iload_n hx hb dX3_readCells_21 rfl (lv_at hl 3 rfl) ?_
        have hP := sw_5_6_7_8_9_of_20_P hP
        have hD := sw_5_6_7_8_9_of_20_D hD
        refine gc_Vl (As := [.int (nI k), .ref ca_, .int w]) (rest := [.int (nI k), .ref sc_]) (ci := 3) (q0 := 0) ⟨hx, hb, hml, hown, hts⟩ (c_X2_sumOf l D cI cJ cG H.size _ t_ rk_ ro_ rc_ al_ ar ac K n kn M C al1 fcc ca_ qc k w (hqc sc1) hn hC hfcc hkn (by omega)) (cwV 3 hts gX3_readCells_X2_sumOf rfl rfl rfl (by decide +kernel) ⟨Nat.le_of_ble_eq_true rfl, Nat.le_of_ble_eq_true rfl⟩) rfl rfl rfl hK hP hD hS hA rfl hl.1 rfl (Nat.le_of_ble_eq_true rfl) dX3_readCells_22 ⟨Nat.le_of_ble_eq_true rfl, Nat.le_of_ble_eq_true rfl⟩ (fun r22 u22 H locs h22 hP hD hS => ?_)
        subst h22
        have hP := sw_5_6_7_8_9_of_20_Pb hP
        have hD := sw_5_6_7_8_9_of_20_Db hD
        have hP : va_P D vwCl (hwW cI cJ cG R h_ c_ d_ w_ v_ t_ rk_ ro_ rc_ al_ b_ ka_ na_ jo_ me_ wo_ fd_ nr_ nc_ sc_ ar ac K n dn wn vn tk kn M C (alk kn C fcc al1 k w n) kd me px pcs bt wo le F fc nr nc sc1) H := hP
        have hD : va_D A (hwW cI cJ cG R h_ c_ d_ w_ v_ t_ rk_ ro_ rc_ al_ b_ ka_ na_ jo_ me_ wo_ fd_ nr_ nc_ sc_ ar ac K n dn wn vn tk kn M C (alk kn C fcc al1 k w n) kd me px pcs bt wo le F fc nr nc sc1) := hD
        refine va_last hx hb hK hP hD hS 19 1 rfl rfl (by first | exact vp_in_nI (by omega) (by omega) | assumption) dX3_readCells_25 (fun H locs hP hD hS => ?_)
        rw [nI_clamp (by omega)] at hP hD
        have hP : va_P D vwCl ((h_, .inr (4, [.int (nI K), .ref c_, .ref t_, .ref b_, .ref wo_, .long le, .ref fd_, .int (nI fc), .ref nr_, .ref nc_, .ref sc_])) :: (c_, .inr (2, [.ref d_, .ref w_, .ref v_, .long tk])) :: (d_, .inl (cI, 8, .inl (nf dn))) :: (w_, .inl (cI, 8, .inl (nf wn))) :: (v_, .inl (cI, 8, .inl (nf vn))) :: (t_, .inr (3, [.int (nI K), .ref rk_, .ref ro_, .ref rc_, .ref al_, .int (nI n)])) :: (rk_, .inl (cI, 40, .inl (nf kn))) :: (ro_, .inl (cG, 40, .inr (.inr (.inr (.inr (og ar)))))) :: (rc_, .inl (cG, 40, .inr (.inr (.inr (.inr (og ac)))))) :: (al_, .inl (cI, 7, .inl (nf (alk kn C fcc al1 k w n)))) :: (b_, .inr (1, [.ref ka_, .ref na_, .ref jo_, .ref me_, .int (nI bt.2.2), .int (nI px), .int (nI pcs)])) :: (ka_, .inl (cI, 256, .inl (k2 kd))) :: (na_, .inl (cI, 256, .inl (l1 bt.1))) :: (jo_, .inl (cI, 100, .inl (nf bt.2.1))) :: (me_, .inl (cI, 100, .inl (nf me))) :: (wo_, .inl (cJ, K, .inr (.inl wo))) :: (fd_, .inl (cI, 400, .inl (nf F))) :: (nr_, .inl (cI, 8, .inl (nf nr))) :: (nc_, .inl (cI, 7, .inl (nf nc))) :: (sc_, .inl (cJ, K, .inr (.inl (vp_updL (lf sc1) k (lN (SUM kn C fcc k w n)))))) :: (pr cI ar M ++ (pq cI ac C ++ R))) H := hP
        have hD : va_D A ((h_, .inr (4, [.int (nI K), .ref c_, .ref t_, .ref b_, .ref wo_, .long le, .ref fd_, .int (nI fc), .ref nr_, .ref nc_, .ref sc_])) :: (c_, .inr (2, [.ref d_, .ref w_, .ref v_, .long tk])) :: (d_, .inl (cI, 8, .inl (nf dn))) :: (w_, .inl (cI, 8, .inl (nf wn))) :: (v_, .inl (cI, 8, .inl (nf vn))) :: (t_, .inr (3, [.int (nI K), .ref rk_, .ref ro_, .ref rc_, .ref al_, .int (nI n)])) :: (rk_, .inl (cI, 40, .inl (nf kn))) :: (ro_, .inl (cG, 40, .inr (.inr (.inr (.inr (og ar)))))) :: (rc_, .inl (cG, 40, .inr (.inr (.inr (.inr (og ac)))))) :: (al_, .inl (cI, 7, .inl (nf (alk kn C fcc al1 k w n)))) :: (b_, .inr (1, [.ref ka_, .ref na_, .ref jo_, .ref me_, .int (nI bt.2.2), .int (nI px), .int (nI pcs)])) :: (ka_, .inl (cI, 256, .inl (k2 kd))) :: (na_, .inl (cI, 256, .inl (l1 bt.1))) :: (jo_, .inl (cI, 100, .inl (nf bt.2.1))) :: (me_, .inl (cI, 100, .inl (nf me))) :: (wo_, .inl (cJ, K, .inr (.inl wo))) :: (fd_, .inl (cI, 400, .inl (nf F))) :: (nr_, .inl (cI, 8, .inl (nf nr))) :: (nc_, .inl (cI, 7, .inl (nf nc))) :: (sc_, .inl (cJ, K, .inr (.inl (vp_updL (lf sc1) k (lN (SUM kn C fcc k w n)))))) :: (pr cI ar M ++ (pq cI ac C ++ R))) := hD
        have hW_ : vp_updL (lf sc1) k (lN (SUM kn C fcc k w n)) = lf (un sc1 k (SUM kn C fcc k w n)) := by exact lf_upd _ _ _
        rw [hW_] at hP hD
        have hP : va_P D vwCl (hwW cI cJ cG R h_ c_ d_ w_ v_ t_ rk_ ro_ rc_ al_ b_ ka_ na_ jo_ me_ wo_ fd_ nr_ nc_ sc_ ar ac K n dn wn vn tk kn M C (alk kn C fcc al1 k w n) kd me px pcs bt wo le F fc nr nc (un sc1 k (SUM kn C fcc k w n))) H := hP
        have hD : va_D A (hwW cI cJ cG R h_ c_ d_ w_ v_ t_ rk_ ro_ rc_ al_ b_ ka_ na_ jo_ me_ wo_ fd_ nr_ nc_ sc_ ar ac K n dn wn vn tk kn M C (alk kn C fcc al1 k w n) kd me px pcs bt wo le F fc nr nc (un sc1 k (SUM kn C fcc k w n))) := hD
        obtain ⟨x26, ex26⟩ : ∃ y : Int32, y = (nI k) + 1 := ⟨_, rfl⟩
        refine lv_iinc (v := x26) (lv' := [(3, .int x26), (0, .ref h_), (1, .ref ca_), (2, .int w)]) hx hb dX3_readCells_26 hl (k := 0) rfl (by rw [ex26]; rfl) (by decide) rfl (fun ls hl => ?_)
        obtain rfl : x26 = nI (k + 1) := by rw [ex26]; exact nI_1 _
        refine lv_goto (tgt := 2) hx hb dX3_readCells_29 (by decide) ?_
        exact ih_2 (k + 1) (alk kn C fcc al1 k w n) (un sc1 k (SUM kn C fcc k w n)) (by omega) (fun j hj => (Nat.lt_or_ge j k).elim (fun h => by rw [un_n (by omega)]; exact hs j h) (fun h => by rw [show j = k by omega]; exact un_s)) (by omega) H locs ls hP hD hS (lv_sub hl [0, 1, 2, 3] rfl)
  exact L_2 _ 0 al sc (Nat.zero_le _) (fun j h => absurd h (Nat.not_lt_zero _)) (Nat.lt_succ_self _) H locs ls hP hD hS (lv_sub hl [0, 1, 2, 3] rfl)
abbrev rX3_readWithout : Room := { frames := 3, cells := 0, slots := 0, locals := 73 }
set_option maxHeartbeats 4000000 in
set_option maxRecDepth 100000 in
theorem c_X3_readWithout (l : Launch) (D : va_G) (cI cJ cG : ClassId) (sz : Nat) (R : va_W) (h_ c_ d_ w_ v_ t_ rk_ ro_ rc_ al_ b_ ka_ na_ jo_ me_ wo_ fd_ nr_ nc_ sc_ : Nat) (ar ac : Nat → Nat) (K : Nat) (n : Nat) (dn : Nat → Nat) (wn : Nat → Nat) (vn : Nat → Nat) (tk : Int64) (kn : Nat → Nat) (M : Nat → Nat → Nat) (C : Nat → Nat → Nat) (al : Nat → Nat) (kd : Nat → Nat) (me : Nat → Nat) (px : Nat) (pcs : Nat) (bt : Bst) (wo : Nat → Int64) (le : Int64) (F : Nat → Nat) (fc : Nat) (nr : Nat → Nat) (nc : Nat → Nat) (sc : Nat → Nat) (i : Nat) (hin : i < n) (hI : HI K n dn wn vn kn M C kd px pcs bt F fc nr nc) : Met l yX3_readWithout wsX3_readWithout rX3_readWithout (gP D (tyl cI cJ cG) [.ref h_, .int (nI i)] (hwW cI cJ cG R h_ c_ d_ w_ v_ t_ rk_ ro_ rc_ al_ b_ ka_ na_ jo_ me_ wo_ fd_ nr_ nc_ sc_ ar ac K n dn wn vn tk kn M C al kd me px pcs bt wo le F fc nr nc sc) sz) (gQi D (tyl cI cJ cG) (hwW cI cJ cG R h_ c_ d_ w_ v_ t_ rk_ ro_ rc_ al_ b_ ka_ na_ jo_ me_ wo_ fd_ nr_ nc_ sc_ ar ac K n dn wn vn tk kn M C al kd me px pcs bt wo le F fc nr nc sc) sz (fun r (u : (Nat → Nat) × (Nat → Nat)) => r = (RD kn C (C i) (nI i) n wo le K)) (fun u => (hwW cI cJ cG R h_ c_ d_ w_ v_ t_ rk_ ro_ rc_ al_ b_ ka_ na_ jo_ me_ wo_ fd_ nr_ nc_ sc_ ar ac K n dn wn vn tk kn M C u.1 kd me px pcs bt wo le F fc nr nc u.2))) 0 0 (va_A (hwW cI cJ cG R h_ c_ d_ w_ v_ t_ rk_ ro_ rc_ al_ b_ ka_ na_ jo_ me_ wo_ fd_ nr_ nc_ sc_ ar ac K n dn wn vn tk kn M C al kd me px pcs bt wo le F fc nr nc sc) sz) := by
  refine gMet (cc := cX3_readWithout) (maxL := 2) (ret := (some .int)) (ls0 := [(0, .ref h_), (1, .int (nI i))]) (by decide) rfl (Nat.le_of_ble_eq_true rfl) rfl ?_
  intro p e s m below meth c hx hb hr hts hown hlocks hml hname A hA hAe hsz Q hQe H locs hP hK hD hS ls hl
  have hown : s.vm.findClass RX3 = some m.cls := hown
  have in_X3 : ∀ w ∈ wsX30, w ∈ wsX3_readWithout := by decide +kernel
  have f_25 := hts (.fieldLink RX3 25 "SpectrumHeads" "table" "LSpectrumHeads$Table;") (by decide +kernel)
  obtain ⟨⟨hK1, hK4⟩, hn, ⟨hdn, hwn, hvn⟩, ⟨hkn, hM, hC⟩, ⟨hkd, hpx, hpcs, hbt⟩, ⟨hF, hfc⟩, ⟨hnr, hnc⟩⟩ := id hI
  refine lv_aload_n hx hb dX3_readWithout_0 rfl (lv_at hl 0 rfl) ?_
  refine lv_aload_n hx hb dX3_readWithout_1 rfl (lv_at hl 0 rfl) ?_
  refine va_get (D := D) (ci := 4) (v := .ref t_) (C := RX3) (T := TX3) (N := 11) hx hb hts in_X3 hown hK hP 0 rfl rfl 2 (by decide) f_25 (fun _ h9 => h9) rfl dX3_readWithout_2 ?_
  refine lv_iload_n hx hb dX3_readWithout_5 rfl (lv_at hl 1 rfl) ?_
  have hP := sw_5_6_7_8_9_of_20_P hP
  have hD := sw_5_6_7_8_9_of_20_D hD
  refine gc_Vr (As := [.int (nI i)]) (rest := [.ref h_]) (ci := 3) (q0 := 0) ⟨hx, hb, hml, hown, hts⟩ (c_X2_cellsOf l D cI cJ cG H.size _ t_ rk_ ro_ rc_ al_ ar ac K n kn M C al i (by omega)) (cwV 1 hts gX3_readWithout_X2_cellsOf rfl rfl rfl (by decide +kernel) ⟨Nat.le_of_ble_eq_true rfl, Nat.le_of_ble_eq_true rfl⟩) rfl rfl rfl hK hP hD hS hA rfl hl.1 rfl (Nat.le_of_ble_eq_true rfl) dX3_readWithout_6 ⟨Nat.le_of_ble_eq_true rfl, Nat.le_of_ble_eq_true rfl⟩ (fun u6 H locs h6 hP hD hS => ?_)
  have hP := sw_5_6_7_8_9_of_20_Pb hP
  have hD := sw_5_6_7_8_9_of_20_Db hD
  have hP : va_P D vwCl (hwW cI cJ cG R h_ c_ d_ w_ v_ t_ rk_ ro_ rc_ al_ b_ ka_ na_ jo_ me_ wo_ fd_ nr_ nc_ sc_ ar ac K n dn wn vn tk kn M C al kd me px pcs bt wo le F fc nr nc sc) H := hP
  have hD : va_D A (hwW cI cJ cG R h_ c_ d_ w_ v_ t_ rk_ ro_ rc_ al_ b_ ka_ na_ jo_ me_ wo_ fd_ nr_ nc_ sc_ ar ac K n dn wn vn tk kn M C al kd me px pcs bt wo le F fc nr nc sc) := hD
  refine lv_iload_n hx hb dX3_readWithout_9 rfl (lv_at hl 1 rfl) ?_
  refine gc_Vi (As := [.ref (ac i), .int (nI i)]) (rest := []) (ci := 4) (q0 := 0) ⟨hx, hb, hml, hown, hts⟩ (c_X3_readCells l D cI cJ cG H.size R h_ c_ d_ w_ v_ t_ rk_ ro_ rc_ al_ b_ ka_ na_ jo_ me_ wo_ fd_ nr_ nc_ sc_ ar ac K n dn wn vn tk kn M C al kd me px pcs bt wo le F fc nr nc sc (ac i) (i + 40) (C i) (nI i) (fun _ => pq_get (by omega)) (hC i) hI) (cwV 2 hts gX3_readWithout_X3_readCells rfl rfl rfl (by decide +kernel) ⟨Nat.le_of_ble_eq_true rfl, Nat.le_of_ble_eq_true rfl⟩) rfl rfl rfl hK hP hD hS hA rfl hl.1 rfl (Nat.le_of_ble_eq_true rfl) dX3_readWithout_10 ⟨Nat.le_of_ble_eq_true rfl, Nat.le_of_ble_eq_true rfl⟩ (fun r10 u10 H locs h10 hP hD hS => ?_)
  subst h10
  have hP : va_P D vwCl (hwW cI cJ cG R h_ c_ d_ w_ v_ t_ rk_ ro_ rc_ al_ b_ ka_ na_ jo_ me_ wo_ fd_ nr_ nc_ sc_ ar ac K n dn wn vn tk kn M C u10.1 kd me px pcs bt wo le F fc nr nc u10.2) H := hP
  have hD : va_D A (hwW cI cJ cG R h_ c_ d_ w_ v_ t_ rk_ ro_ rc_ al_ b_ ka_ na_ jo_ me_ wo_ fd_ nr_ nc_ sc_ ar ac K n dn wn vn tk kn M C u10.1 kd me px pcs bt wo le F fc nr nc u10.2) := hD
  subst hQe
  subst hAe
  subst hsz
  exact g_iret hx hb hr hlocks u10 rfl hP hK hD hS dX3_readWithout_13
abbrev rX3_read : Room := { frames := 4, cells := 0, slots := 0, locals := 86 }
set_option maxHeartbeats 4000000 in
set_option maxRecDepth 100000 in
theorem c_X3_read (l : Launch) (D : va_G) (cI cJ cG : ClassId) (sz : Nat) (R : va_W) (h_ c_ d_ w_ v_ t_ rk_ ro_ rc_ al_ b_ ka_ na_ jo_ me_ wo_ fd_ nr_ nc_ sc_ : Nat) (ar ac : Nat → Nat) (K : Nat) (n : Nat) (dn : Nat → Nat) (wn : Nat → Nat) (vn : Nat → Nat) (tk : Int64) (kn : Nat → Nat) (M : Nat → Nat → Nat) (C : Nat → Nat → Nat) (al : Nat → Nat) (kd : Nat → Nat) (me : Nat → Nat) (px : Nat) (pcs : Nat) (bt : Bst) (wo : Nat → Int64) (le : Int64) (F : Nat → Nat) (fc : Nat) (nr : Nat → Nat) (nc : Nat → Nat) (sc : Nat → Nat) (hI : HI K n dn wn vn kn M C kd px pcs bt F fc nr nc) : Met l yX3_read wsX3_read rX3_read (gP D (tyl cI cJ cG) [.ref h_] (hwW cI cJ cG R h_ c_ d_ w_ v_ t_ rk_ ro_ rc_ al_ b_ ka_ na_ jo_ me_ wo_ fd_ nr_ nc_ sc_ ar ac K n dn wn vn tk kn M C al kd me px pcs bt wo le F fc nr nc sc) sz) (gQi D (tyl cI cJ cG) (hwW cI cJ cG R h_ c_ d_ w_ v_ t_ rk_ ro_ rc_ al_ b_ ka_ na_ jo_ me_ wo_ fd_ nr_ nc_ sc_ ar ac K n dn wn vn tk kn M C al kd me px pcs bt wo le F fc nr nc sc) sz (fun r (u : (Nat → Nat) × (Nat → Nat) × (Nat → Nat) × (Nat → Nat)) => r = RD kn C (fu (ceN (fu (rwN dn wn vn) nr 8)) nc 7) (-1) n wo le K ∧ (∀ k, u.2.2.1 k ≤ 255) ∧ (∀ k, u.2.2.2 k < 8)) (fun u => (hwW cI cJ cG R h_ c_ d_ w_ v_ t_ rk_ ro_ rc_ al_ b_ ka_ na_ jo_ me_ wo_ fd_ nr_ nc_ sc_ ar ac K n dn wn vn tk kn M C u.1 kd me px pcs bt wo le F fc u.2.2.1 u.2.2.2 u.2.1))) 0 0 (va_A (hwW cI cJ cG R h_ c_ d_ w_ v_ t_ rk_ ro_ rc_ al_ b_ ka_ na_ jo_ me_ wo_ fd_ nr_ nc_ sc_ ar ac K n dn wn vn tk kn M C al kd me px pcs bt wo le F fc nr nc sc) sz) := by
  refine gMet (cc := cX3_read) (maxL := 1) (ret := (some .int)) (ls0 := [(0, .ref h_)]) (by decide) rfl (Nat.le_of_ble_eq_true rfl) rfl ?_
  intro p e s m below meth c hx hb hr hts hown hlocks hml hname A hA hAe hsz Q hQe H locs hP hK hD hS ls hl
  have hown : s.vm.findClass RX3 = some m.cls := hown
  have in_X3 : ∀ w ∈ wsX30, w ∈ wsX3_read := by decide +kernel
  have f_54 := hts (.fieldLink RX3 54 "SpectrumHeads" "nowCells" "[I") (by decide +kernel)
  obtain ⟨⟨hK1, hK4⟩, hn, ⟨hdn, hwn, hvn⟩, ⟨hkn, hM, hC⟩, ⟨hkd, hpx, hpcs, hbt⟩, ⟨hF, hfc⟩, ⟨hnr, hnc⟩⟩ := id hI
  refine lv_aload_n hx hb dX3_read_0 rfl (lv_at hl 0 rfl) ?_
  refine gc_Vv (As := []) (rest := []) (ci := 4) (q0 := 0) ⟨hx, hb, hml, hown, hts⟩ (c_X3_lookAtNow l D cI cJ cG H.size R h_ c_ d_ w_ v_ t_ rk_ ro_ rc_ al_ b_ ka_ na_ jo_ me_ wo_ fd_ nr_ nc_ sc_ ar ac K n dn wn vn tk kn M C al kd me px pcs bt wo le F fc nr nc sc hI) (cwV 0 hts gX3_read_X3_lookAtNow rfl rfl rfl (by decide +kernel) ⟨Nat.le_of_ble_eq_true rfl, Nat.le_of_ble_eq_true rfl⟩) rfl rfl rfl hK hP hD hS hA rfl hl.1 rfl (Nat.le_of_ble_eq_true rfl) dX3_read_1 ⟨Nat.le_of_ble_eq_true rfl, Nat.le_of_ble_eq_true rfl⟩ (fun u1 H locs h1 hP hD hS => ?_)
  have hP : va_P D vwCl (hwW cI cJ cG R h_ c_ d_ w_ v_ t_ rk_ ro_ rc_ al_ b_ ka_ na_ jo_ me_ wo_ fd_ nr_ nc_ sc_ ar ac K n dn wn vn tk kn M C al kd me px pcs bt wo le F fc (fu (rwN dn wn vn) nr 8) (fu (ceN (fu (rwN dn wn vn) nr 8)) nc 7) sc) H := hP
  have hD : va_D A (hwW cI cJ cG R h_ c_ d_ w_ v_ t_ rk_ ro_ rc_ al_ b_ ka_ na_ jo_ me_ wo_ fd_ nr_ nc_ sc_ ar ac K n dn wn vn tk kn M C al kd me px pcs bt wo le F fc (fu (rwN dn wn vn) nr 8) (fu (ceN (fu (rwN dn wn vn) nr 8)) nc 7) sc) := hD
  refine lv_aload_n hx hb dX3_read_4 rfl (lv_at hl 0 rfl) ?_
  refine lv_aload_n hx hb dX3_read_5 rfl (lv_at hl 0 rfl) ?_
  refine va_get (D := D) (ci := 4) (v := .ref nc_) (C := RX3) (T := TX3) (N := 11) hx hb hts in_X3 hown hK hP 0 rfl rfl 9 (by decide) f_54 (fun _ h9 => h9) rfl dX3_read_6 ?_
  refine lv_iconst (v := -1) hx hb dX3_read_9 (by decide) ?_
  refine gc_Vi (As := [.ref nc_, .int (-1)]) (rest := []) (ci := 4) (q0 := 0) ⟨hx, hb, hml, hown, hts⟩ (c_X3_readCells l D cI cJ cG H.size R h_ c_ d_ w_ v_ t_ rk_ ro_ rc_ al_ b_ ka_ na_ jo_ me_ wo_ fd_ nr_ nc_ sc_ ar ac K n dn wn vn tk kn M C al kd me px pcs bt wo le F fc (fu (rwN dn wn vn) nr 8) (fu (ceN (fu (rwN dn wn vn) nr 8)) nc 7) sc nc_ (80 + R.length + 13) (fu (ceN (fu (rwN dn wn vn) nr 8)) nc 7) (-1) (fun _ => tl_get 13 rfl) (nc_lt (nr_le hnr) hnc) (HI_now hI (nr_le hnr) (nc_lt (nr_le hnr) hnc))) (cwV 2 hts gX3_read_X3_readCells rfl rfl rfl (by decide +kernel) ⟨Nat.le_of_ble_eq_true rfl, Nat.le_of_ble_eq_true rfl⟩) rfl rfl rfl hK hP hD hS hA rfl hl.1 rfl (Nat.le_of_ble_eq_true rfl) dX3_read_10 ⟨Nat.le_of_ble_eq_true rfl, Nat.le_of_ble_eq_true rfl⟩ (fun r10 u10 H locs h10 hP hD hS => ?_)
  subst h10
  have hP : va_P D vwCl (hwW cI cJ cG R h_ c_ d_ w_ v_ t_ rk_ ro_ rc_ al_ b_ ka_ na_ jo_ me_ wo_ fd_ nr_ nc_ sc_ ar ac K n dn wn vn tk kn M C u10.1 kd me px pcs bt wo le F fc (fu (rwN dn wn vn) nr 8) (fu (ceN (fu (rwN dn wn vn) nr 8)) nc 7) u10.2) H := hP
  have hD : va_D A (hwW cI cJ cG R h_ c_ d_ w_ v_ t_ rk_ ro_ rc_ al_ b_ ka_ na_ jo_ me_ wo_ fd_ nr_ nc_ sc_ ar ac K n dn wn vn tk kn M C u10.1 kd me px pcs bt wo le F fc (fu (rwN dn wn vn) nr 8) (fu (ceN (fu (rwN dn wn vn) nr 8)) nc 7) u10.2) := hD
  subst hQe
  subst hAe
  subst hsz
  exact g_iret hx hb hr hlocks (u10.1, u10.2, (fu (rwN dn wn vn) nr 8), (fu (ceN (fu (rwN dn wn vn) nr 8)) nc 7)) ⟨rfl, ⟨nr_le hnr, nc_lt (nr_le hnr) hnc⟩⟩ hP hK hD hS dX3_read_13
abbrev rX3_sum : Room := { frames := 4, cells := 0, slots := 0, locals := 86 }
set_option maxHeartbeats 4000000 in
set_option maxRecDepth 100000 in
theorem c_X3_sum (l : Launch) (D : va_G) (cI cJ cG : ClassId) (sz : Nat) (R : va_W) (h_ c_ d_ w_ v_ t_ rk_ ro_ rc_ al_ b_ ka_ na_ jo_ me_ wo_ fd_ nr_ nc_ sc_ : Nat) (ar ac : Nat → Nat) (K : Nat) (n : Nat) (dn : Nat → Nat) (wn : Nat → Nat) (vn : Nat → Nat) (tk : Int64) (kn : Nat → Nat) (M : Nat → Nat → Nat) (C : Nat → Nat → Nat) (al : Nat → Nat) (kd : Nat → Nat) (me : Nat → Nat) (px : Nat) (pcs : Nat) (bt : Bst) (wo : Nat → Int64) (le : Int64) (F : Nat → Nat) (fc : Nat) (nr : Nat → Nat) (nc : Nat → Nat) (sc : Nat → Nat) (x : Int32) (hI : HI K n dn wn vn kn M C kd px pcs bt F fc nr nc) : Met l yX3_sum wsX3_sum rX3_sum (gP D (tyl cI cJ cG) [.ref h_, .int x] (hwW cI cJ cG R h_ c_ d_ w_ v_ t_ rk_ ro_ rc_ al_ b_ ka_ na_ jo_ me_ wo_ fd_ nr_ nc_ sc_ ar ac K n dn wn vn tk kn M C al kd me px pcs bt wo le F fc nr nc sc) sz) (gQl D (tyl cI cJ cG) (hwW cI cJ cG R h_ c_ d_ w_ v_ t_ rk_ ro_ rc_ al_ b_ ka_ na_ jo_ me_ wo_ fd_ nr_ nc_ sc_ ar ac K n dn wn vn tk kn M C al kd me px pcs bt wo le F fc nr nc sc) sz (fun r (u : (Nat → Nat) × (Nat → Nat) × (Nat → Nat) × (Nat → Nat)) => (r = if inB x K = true then lN (SUM kn C (fu (ceN (fu (rwN dn wn vn) nr 8)) nc 7) x.toNatClampNeg (-1) n) else -1) ∧ (∀ k, u.2.2.1 k ≤ 255) ∧ (∀ k, u.2.2.2 k < 8)) (fun u => (hwW cI cJ cG R h_ c_ d_ w_ v_ t_ rk_ ro_ rc_ al_ b_ ka_ na_ jo_ me_ wo_ fd_ nr_ nc_ sc_ ar ac K n dn wn vn tk kn M C u.1 kd me px pcs bt wo le F fc u.2.2.1 u.2.2.2 u.2.1))) 0 0 (va_A (hwW cI cJ cG R h_ c_ d_ w_ v_ t_ rk_ ro_ rc_ al_ b_ ka_ na_ jo_ me_ wo_ fd_ nr_ nc_ sc_ ar ac K n dn wn vn tk kn M C al kd me px pcs bt wo le F fc nr nc sc) sz) := by
  refine gMet (cc := cX3_sum) (maxL := 2) (ret := (some .long)) (ls0 := [(0, .ref h_), (1, .int x)]) (by decide) rfl (Nat.le_of_ble_eq_true rfl) rfl ?_
  intro p e s m below meth c hx hb hr hts hown hlocks hml hname A hA hAe hsz Q hQe H locs hP hK hD hS ls hl
  have hown : s.vm.findClass RX3 = some m.cls := hown
  have in_X3 : ∀ w ∈ wsX30, w ∈ wsX3_sum := by decide +kernel
  have f_25 := hts (.fieldLink RX3 25 "SpectrumHeads" "table" "LSpectrumHeads$Table;") (by decide +kernel)
  have f_54 := hts (.fieldLink RX3 54 "SpectrumHeads" "nowCells" "[I") (by decide +kernel)
  obtain ⟨⟨hK1, hK4⟩, hn, ⟨hdn, hwn, hvn⟩, ⟨hkn, hM, hC⟩, ⟨hkd, hpx, hpcs, hbt⟩, ⟨hF, hfc⟩, ⟨hnr, hnc⟩⟩ := id hI
  refine lv_aload_n hx hb dX3_sum_0 rfl (lv_at hl 0 rfl) ?_
  refine lv_iload_n hx hb dX3_sum_1 rfl (lv_at hl 1 rfl) ?_
  refine gc_Vi (As := [.int x]) (rest := []) (ci := 4) (q0 := 0) ⟨hx, hb, hml, hown, hts⟩ (c_X3_isKind l D cI cJ cG H.size _ h_ c_ t_ b_ wo_ fd_ nr_ nc_ sc_ K fc le x hK4) (cwV 1 hts gX3_sum_X3_isKind rfl rfl rfl (by decide +kernel) ⟨Nat.le_of_ble_eq_true rfl, Nat.le_of_ble_eq_true rfl⟩) rfl rfl rfl hK hP hD hS hA rfl hl.1 rfl (Nat.le_of_ble_eq_true rfl) dX3_sum_2 ⟨Nat.le_of_ble_eq_true rfl, Nat.le_of_ble_eq_true rfl⟩ (fun r2 u2 H locs h2 hP hD hS => ?_)
  subst h2
  have hP : va_P D vwCl (hwW cI cJ cG R h_ c_ d_ w_ v_ t_ rk_ ro_ rc_ al_ b_ ka_ na_ jo_ me_ wo_ fd_ nr_ nc_ sc_ ar ac K n dn wn vn tk kn M C al kd me px pcs bt wo le F fc nr nc sc) H := hP
  have hD : va_D A (hwW cI cJ cG R h_ c_ d_ w_ v_ t_ rk_ ro_ rc_ al_ b_ ka_ na_ jo_ me_ wo_ fd_ nr_ nc_ sc_ ar ac K n dn wn vn tk kn M C al kd me px pcs bt wo le F fc nr nc sc) := hD
  refine lv_if_ne (tgt := 12) hx hb dX3_sum_5 (by decide) (fun c5 => ?_) (fun c5 => ?_)
  · skip
    have hB5 := bI_n0.mp c5
    obtain ⟨a, ha_, rfl⟩ := inB_of hB5 (by omega)
    refine lv_aload_n hx hb dX3_sum_12 rfl (lv_at hl 0 rfl) ?_
    refine gc_Vv (As := []) (rest := []) (ci := 4) (q0 := 0) ⟨hx, hb, hml, hown, hts⟩ (c_X3_lookAtNow l D cI cJ cG H.size R h_ c_ d_ w_ v_ t_ rk_ ro_ rc_ al_ b_ ka_ na_ jo_ me_ wo_ fd_ nr_ nc_ sc_ ar ac K n dn wn vn tk kn M C al kd me px pcs bt wo le F fc nr nc sc hI) (cwV 0 hts gX3_sum_X3_lookAtNow rfl rfl rfl (by decide +kernel) ⟨Nat.le_of_ble_eq_true rfl, Nat.le_of_ble_eq_true rfl⟩) rfl rfl rfl hK hP hD hS hA rfl hl.1 rfl (Nat.le_of_ble_eq_true rfl) dX3_sum_13 ⟨Nat.le_of_ble_eq_true rfl, Nat.le_of_ble_eq_true rfl⟩ (fun u13 H locs h13 hP hD hS => ?_)
    have hP : va_P D vwCl (hwW cI cJ cG R h_ c_ d_ w_ v_ t_ rk_ ro_ rc_ al_ b_ ka_ na_ jo_ me_ wo_ fd_ nr_ nc_ sc_ ar ac K n dn wn vn tk kn M C al kd me px pcs bt wo le F fc (fu (rwN dn wn vn) nr 8) (fu (ceN (fu (rwN dn wn vn) nr 8)) nc 7) sc) H := hP
    have hD : va_D A (hwW cI cJ cG R h_ c_ d_ w_ v_ t_ rk_ ro_ rc_ al_ b_ ka_ na_ jo_ me_ wo_ fd_ nr_ nc_ sc_ ar ac K n dn wn vn tk kn M C al kd me px pcs bt wo le F fc (fu (rwN dn wn vn) nr 8) (fu (ceN (fu (rwN dn wn vn) nr 8)) nc 7) sc) := hD
    refine lv_aload_n hx hb dX3_sum_16 rfl (lv_at hl 0 rfl) ?_
    refine va_get (D := D) (ci := 4) (v := .ref t_) (C := RX3) (T := TX3) (N := 11) hx hb hts in_X3 hown hK hP 0 rfl rfl 2 (by decide) f_25 (fun _ h9 => h9) rfl dX3_sum_17 ?_
    refine lv_iload_n hx hb dX3_sum_20 rfl (lv_at hl 1 rfl) ?_
    refine lv_aload_n hx hb dX3_sum_21 rfl (lv_at hl 0 rfl) ?_
    refine va_get (D := D) (ci := 4) (v := .ref nc_) (C := RX3) (T := TX3) (N := 11) hx hb hts in_X3 hown hK hP 0 rfl rfl 9 (by decide) f_54 (fun _ h9 => h9) rfl dX3_sum_22 ?_
    refine lv_iconst (v := -1) hx hb dX3_sum_25 (by decide) ?_
    have hP := sw_5_6_7_8_9_of_20_P hP
    have hD := sw_5_6_7_8_9_of_20_D hD
    refine gc_Vl (As := [.int (nI a), .ref nc_, .int (-1)]) (rest := []) (ci := 3) (q0 := 0) ⟨hx, hb, hml, hown, hts⟩ (c_X2_sumOf l D cI cJ cG H.size (R ++ [(h_, .inr (4, [.int (nI K), .ref c_, .ref t_, .ref b_, .ref wo_, .long le, .ref fd_, .int (nI fc), .ref nr_, .ref nc_, .ref sc_])), (c_, .inr (2, [.ref d_, .ref w_, .ref v_, .long tk])), (d_, .inl (cI, 8, .inl (nf dn))), (w_, .inl (cI, 8, .inl (nf wn))), (v_, .inl (cI, 8, .inl (nf vn))), (b_, .inr (1, [.ref ka_, .ref na_, .ref jo_, .ref me_, .int (nI bt.2.2), .int (nI px), .int (nI pcs)])), (ka_, .inl (cI, 256, .inl (k2 kd))), (na_, .inl (cI, 256, .inl (l1 bt.1))), (jo_, .inl (cI, 100, .inl (nf bt.2.1))), (me_, .inl (cI, 100, .inl (nf me))), (wo_, .inl (cJ, K, .inr (.inl wo))), (fd_, .inl (cI, 400, .inl (nf F))), (nr_, .inl (cI, 8, .inl (nf (fu (rwN dn wn vn) nr 8)))), (nc_, .inl (cI, 7, .inl (nf (fu (ceN (fu (rwN dn wn vn) nr 8)) nc 7)))), (sc_, .inl (cJ, K, .inr (.inl (lf sc))))]) t_ rk_ ro_ rc_ al_ ar ac K n kn M C al (fu (ceN (fu (rwN dn wn vn) nr 8)) nc 7) nc_ (80 + R.length + 13) a (-1) (tl_get 13 rfl) hn hC (nc_lt (nr_le hnr) hnc) hkn (by omega)) (cwV 3 hts gX3_sum_X2_sumOf rfl rfl rfl (by decide +kernel) ⟨Nat.le_of_ble_eq_true rfl, Nat.le_of_ble_eq_true rfl⟩) rfl rfl rfl hK hP hD hS hA rfl hl.1 rfl (Nat.le_of_ble_eq_true rfl) dX3_sum_26 ⟨Nat.le_of_ble_eq_true rfl, Nat.le_of_ble_eq_true rfl⟩ (fun r26 u26 H locs h26 hP hD hS => ?_)
    subst h26
    have hP := sw_5_6_7_8_9_of_20_Pb hP
    have hD := sw_5_6_7_8_9_of_20_Db hD
    have hP : va_P D vwCl (hwW cI cJ cG R h_ c_ d_ w_ v_ t_ rk_ ro_ rc_ al_ b_ ka_ na_ jo_ me_ wo_ fd_ nr_ nc_ sc_ ar ac K n dn wn vn tk kn M C (alk kn C (fu (ceN (fu (rwN dn wn vn) nr 8)) nc 7) al a (-1) n) kd me px pcs bt wo le F fc (fu (rwN dn wn vn) nr 8) (fu (ceN (fu (rwN dn wn vn) nr 8)) nc 7) sc) H := hP
    have hD : va_D A (hwW cI cJ cG R h_ c_ d_ w_ v_ t_ rk_ ro_ rc_ al_ b_ ka_ na_ jo_ me_ wo_ fd_ nr_ nc_ sc_ ar ac K n dn wn vn tk kn M C (alk kn C (fu (ceN (fu (rwN dn wn vn) nr 8)) nc 7) al a (-1) n) kd me px pcs bt wo le F fc (fu (rwN dn wn vn) nr 8) (fu (ceN (fu (rwN dn wn vn) nr 8)) nc 7) sc) := hD
    subst hQe
    subst hAe
    subst hsz
    exact g_lret hx hb hr hlocks (alk kn C (fu (ceN (fu (rwN dn wn vn) nr 8)) nc 7) al a (-1) n, sc, (fu (rwN dn wn vn) nr 8), (fu (ceN (fu (rwN dn wn vn) nr 8)) nc 7)) ⟨by rw [hB5, nI_clamp (by omega)]; rfl, ⟨nr_le hnr, nc_lt (nr_le hnr) hnc⟩⟩ hP hK hD hS dX3_sum_29
  · skip
    have hB5 := bI_0.mp c5
    refine lv_ldc2 (v := -1) hx hb hown (hts (.constantLong RX3 102 (-1)) (by decide +kernel)) dX3_sum_8 ?_
    subst hQe
    subst hAe
    subst hsz
    exact g_lret hx hb hr hlocks (al, sc, nr, nc) ⟨by rw [hB5]; rfl, hnr, hnc⟩ hP hK hD hS dX3_sum_11
abbrev rX3_leftOut : Room := { frames := 4, cells := 0, slots := 0, locals := 94 }
set_option maxHeartbeats 4000000 in
set_option maxRecDepth 100000 in
theorem c_X3_leftOut (l : Launch) (D : va_G) (cI cJ cG : ClassId) (sz : Nat) (R : va_W) (h_ c_ d_ w_ v_ t_ rk_ ro_ rc_ al_ b_ ka_ na_ jo_ me_ wo_ fd_ nr_ nc_ sc_ : Nat) (ar ac : Nat → Nat) (K : Nat) (n : Nat) (dn : Nat → Nat) (wn : Nat → Nat) (vn : Nat → Nat) (tk : Int64) (kn : Nat → Nat) (M : Nat → Nat → Nat) (C : Nat → Nat → Nat) (al : Nat → Nat) (kd : Nat → Nat) (me : Nat → Nat) (px : Nat) (pcs : Nat) (bt : Bst) (wo : Nat → Int64) (le : Int64) (F : Nat → Nat) (fc : Nat) (nr : Nat → Nat) (nc : Nat → Nat) (sc : Nat → Nat) (x : Int32) (hI : HI K n dn wn vn kn M C kd px pcs bt F fc nr nc) : Met l yX3_leftOut wsX3_leftOut rX3_leftOut (gP D (tyl cI cJ cG) [.ref h_, .int x] (hwW cI cJ cG R h_ c_ d_ w_ v_ t_ rk_ ro_ rc_ al_ b_ ka_ na_ jo_ me_ wo_ fd_ nr_ nc_ sc_ ar ac K n dn wn vn tk kn M C al kd me px pcs bt wo le F fc nr nc sc) sz) (gQi D (tyl cI cJ cG) (hwW cI cJ cG R h_ c_ d_ w_ v_ t_ rk_ ro_ rc_ al_ b_ ka_ na_ jo_ me_ wo_ fd_ nr_ nc_ sc_ ar ac K n dn wn vn tk kn M C al kd me px pcs bt wo le F fc nr nc sc) sz (fun r (u : (Nat → Nat) × (Nat → Nat)) => r = if inB x n = true then RD kn C (C x.toNatClampNeg) (nI x.toNatClampNeg) n wo le K else -2) (fun u => (hwW cI cJ cG R h_ c_ d_ w_ v_ t_ rk_ ro_ rc_ al_ b_ ka_ na_ jo_ me_ wo_ fd_ nr_ nc_ sc_ ar ac K n dn wn vn tk kn M C u.1 kd me px pcs bt wo le F fc nr nc u.2))) 0 0 (va_A (hwW cI cJ cG R h_ c_ d_ w_ v_ t_ rk_ ro_ rc_ al_ b_ ka_ na_ jo_ me_ wo_ fd_ nr_ nc_ sc_ ar ac K n dn wn vn tk kn M C al kd me px pcs bt wo le F fc nr nc sc) sz) := by
  refine gMet (cc := cX3_leftOut) (maxL := 2) (ret := (some .int)) (ls0 := [(0, .ref h_), (1, .int x)]) (by decide) rfl (Nat.le_of_ble_eq_true rfl) rfl ?_
  intro p e s m below meth c hx hb hr hts hown hlocks hml hname A hA hAe hsz Q hQe H locs hP hK hD hS ls hl
  have hown : s.vm.findClass RX3 = some m.cls := hown
  have in_X3 : ∀ w ∈ wsX30, w ∈ wsX3_leftOut := by decide +kernel
  have f_25 := hts (.fieldLink RX3 25 "SpectrumHeads" "table" "LSpectrumHeads$Table;") (by decide +kernel)
  obtain ⟨⟨hK1, hK4⟩, hn, ⟨hdn, hwn, hvn⟩, ⟨hkn, hM, hC⟩, ⟨hkd, hpx, hpcs, hbt⟩, ⟨hF, hfc⟩, ⟨hnr, hnc⟩⟩ := id hI
  refine lv_aload_n hx hb dX3_leftOut_0 rfl (lv_at hl 0 rfl) ?_
  refine va_get (D := D) (ci := 4) (v := .ref t_) (C := RX3) (T := TX3) (N := 11) hx hb hts in_X3 hown hK hP 0 rfl rfl 2 (by decide) f_25 (fun _ h9 => h9) rfl dX3_leftOut_1 ?_
  refine lv_iload_n hx hb dX3_leftOut_4 rfl (lv_at hl 1 rfl) ?_
  have hP := sw_5_6_7_8_9_of_20_P hP
  have hD := sw_5_6_7_8_9_of_20_D hD
  refine gc_Vi (As := [.int x]) (rest := []) (ci := 3) (q0 := 0) ⟨hx, hb, hml, hown, hts⟩ (c_X2_has l D cI cJ cG H.size _ t_ rk_ ro_ rc_ al_ ar ac K n kn M C al x hn) (cwV 1 hts gX3_leftOut_X2_has rfl rfl rfl (by decide +kernel) ⟨Nat.le_of_ble_eq_true rfl, Nat.le_of_ble_eq_true rfl⟩) rfl rfl rfl hK hP hD hS hA rfl hl.1 rfl (Nat.le_of_ble_eq_true rfl) dX3_leftOut_5 ⟨Nat.le_of_ble_eq_true rfl, Nat.le_of_ble_eq_true rfl⟩ (fun r5 u5 H locs h5 hP hD hS => ?_)
  subst h5
  have hP := sw_5_6_7_8_9_of_20_Pb hP
  have hD := sw_5_6_7_8_9_of_20_Db hD
  have hP : va_P D vwCl (hwW cI cJ cG R h_ c_ d_ w_ v_ t_ rk_ ro_ rc_ al_ b_ ka_ na_ jo_ me_ wo_ fd_ nr_ nc_ sc_ ar ac K n dn wn vn tk kn M C al kd me px pcs bt wo le F fc nr nc sc) H := hP
  have hD : va_D A (hwW cI cJ cG R h_ c_ d_ w_ v_ t_ rk_ ro_ rc_ al_ b_ ka_ na_ jo_ me_ wo_ fd_ nr_ nc_ sc_ ar ac K n dn wn vn tk kn M C al kd me px pcs bt wo le F fc nr nc sc) := hD
  refine lv_if_eq (tgt := 19) hx hb dX3_leftOut_8 (by decide) (fun c8 => ?_) (fun c8 => ?_)
  · skip
    have hB8 := bI_0.mp c8
    refine lv_bipush (v := -2) hx hb dX3_leftOut_19 (by decide) ?_
    subst hQe
    subst hAe
    subst hsz
    exact g_iret hx hb hr hlocks (al, sc) (by rw [hB8]; rfl) hP hK hD hS dX3_leftOut_21
  · skip
    have hB8 := bI_n0.mp c8
    obtain ⟨i, hi_, rfl⟩ := inB_of hB8 (by omega)
    refine lv_aload_n hx hb dX3_leftOut_11 rfl (lv_at hl 0 rfl) ?_
    refine lv_iload_n hx hb dX3_leftOut_12 rfl (lv_at hl 1 rfl) ?_
    refine gc_Vi (As := [.int (nI i)]) (rest := []) (ci := 4) (q0 := 0) ⟨hx, hb, hml, hown, hts⟩ (c_X3_readWithout l D cI cJ cG H.size R h_ c_ d_ w_ v_ t_ rk_ ro_ rc_ al_ b_ ka_ na_ jo_ me_ wo_ fd_ nr_ nc_ sc_ ar ac K n dn wn vn tk kn M C al kd me px pcs bt wo le F fc nr nc sc i hi_ hI) (cwV 1 hts gX3_leftOut_X3_readWithout rfl rfl rfl (by decide +kernel) ⟨Nat.le_of_ble_eq_true rfl, Nat.le_of_ble_eq_true rfl⟩) rfl rfl rfl hK hP hD hS hA rfl hl.1 rfl (Nat.le_of_ble_eq_true rfl) dX3_leftOut_13 ⟨Nat.le_of_ble_eq_true rfl, Nat.le_of_ble_eq_true rfl⟩ (fun r13 u13 H locs h13 hP hD hS => ?_)
    subst h13
    have hP : va_P D vwCl (hwW cI cJ cG R h_ c_ d_ w_ v_ t_ rk_ ro_ rc_ al_ b_ ka_ na_ jo_ me_ wo_ fd_ nr_ nc_ sc_ ar ac K n dn wn vn tk kn M C u13.1 kd me px pcs bt wo le F fc nr nc u13.2) H := hP
    have hD : va_D A (hwW cI cJ cG R h_ c_ d_ w_ v_ t_ rk_ ro_ rc_ al_ b_ ka_ na_ jo_ me_ wo_ fd_ nr_ nc_ sc_ ar ac K n dn wn vn tk kn M C u13.1 kd me px pcs bt wo le F fc nr nc u13.2) := hD
    refine lv_goto (tgt := 21) hx hb dX3_leftOut_16 (by decide) ?_
    subst hQe
    subst hAe
    subst hsz
    exact g_iret hx hb hr hlocks u13 (by rw [hB8, nI_clamp (by omega)]; rfl) hP hK hD hS dX3_leftOut_21
abbrev rX3_wrong : Room := { frames := 4, cells := 0, slots := 0, locals := 94 }
set_option maxHeartbeats 4000000 in
set_option maxRecDepth 100000 in
theorem c_X3_wrong (l : Launch) (D : va_G) (cI cJ cG : ClassId) (sz : Nat) (R : va_W) (h_ c_ d_ w_ v_ t_ rk_ ro_ rc_ al_ b_ ka_ na_ jo_ me_ wo_ fd_ nr_ nc_ sc_ : Nat) (ar ac : Nat → Nat) (K : Nat) (n : Nat) (dn : Nat → Nat) (wn : Nat → Nat) (vn : Nat → Nat) (tk : Int64) (kn : Nat → Nat) (M : Nat → Nat → Nat) (C : Nat → Nat → Nat) (al : Nat → Nat) (kd : Nat → Nat) (me : Nat → Nat) (px : Nat) (pcs : Nat) (bt : Bst) (wo : Nat → Int64) (le : Int64) (F : Nat → Nat) (fc : Nat) (nr : Nat → Nat) (nc : Nat → Nat) (sc : Nat → Nat) (x y : Int32) (hI : HI K n dn wn vn kn M C kd px pcs bt F fc nr nc) : Met l yX3_wrong wsX3_wrong rX3_wrong (gP D (tyl cI cJ cG) [.ref h_, .int x, .int y] (hwW cI cJ cG R h_ c_ d_ w_ v_ t_ rk_ ro_ rc_ al_ b_ ka_ na_ jo_ me_ wo_ fd_ nr_ nc_ sc_ ar ac K n dn wn vn tk kn M C al kd me px pcs bt wo le F fc nr nc sc) sz) (gQl D (tyl cI cJ cG) (hwW cI cJ cG R h_ c_ d_ w_ v_ t_ rk_ ro_ rc_ al_ b_ ka_ na_ jo_ me_ wo_ fd_ nr_ nc_ sc_ ar ac K n dn wn vn tk kn M C al kd me px pcs bt wo le F fc nr nc sc) sz (fun r (u : (Nat → Nat) × (Nat → Nat)) => r = if (inB x K && (inB y K || decide (y = -1))) = true then lN (cnt (wrP kn C n wo le K x.toNatClampNeg y) n) else -1) (fun u => (hwW cI cJ cG R h_ c_ d_ w_ v_ t_ rk_ ro_ rc_ al_ b_ ka_ na_ jo_ me_ wo_ fd_ nr_ nc_ sc_ ar ac K n dn wn vn tk kn M C u.1 kd me px pcs bt wo le F fc nr nc u.2))) 0 0 (va_A (hwW cI cJ cG R h_ c_ d_ w_ v_ t_ rk_ ro_ rc_ al_ b_ ka_ na_ jo_ me_ wo_ fd_ nr_ nc_ sc_ ar ac K n dn wn vn tk kn M C al kd me px pcs bt wo le F fc nr nc sc) sz) := by
  refine gMet (cc := cX3_wrong) (maxL := 7) (ret := (some .long)) (ls0 := [(0, .ref h_), (1, .int x), (2, .int y)]) (by decide) rfl (Nat.le_of_ble_eq_true rfl) rfl ?_
  intro p e s m below meth c hx hb hr hts hown hlocks hml hname A hA hAe hsz Q hQe H locs hP hK hD hS ls hl
  have hown : s.vm.findClass RX3 = some m.cls := hown
  have in_X3 : ∀ w ∈ wsX30, w ∈ wsX3_wrong := by decide +kernel
  have f_25 := hts (.fieldLink RX3 25 "SpectrumHeads" "table" "LSpectrumHeads$Table;") (by decide +kernel)
  obtain ⟨⟨hK1, hK4⟩, hn, ⟨hdn, hwn, hvn⟩, ⟨hkn, hM, hC⟩, ⟨hkd, hpx, hpcs, hbt⟩, ⟨hF, hfc⟩, ⟨hnr, hnc⟩⟩ := id hI
  refine lv_aload_n hx hb dX3_wrong_0 rfl (lv_at hl 0 rfl) ?_
  refine lv_iload_n hx hb dX3_wrong_1 rfl (lv_at hl 1 rfl) ?_
  refine gc_Vi (As := [.int x]) (rest := []) (ci := 4) (q0 := 0) ⟨hx, hb, hml, hown, hts⟩ (c_X3_isKind l D cI cJ cG H.size _ h_ c_ t_ b_ wo_ fd_ nr_ nc_ sc_ K fc le x hK4) (cwV 1 hts gX3_wrong_X3_isKind rfl rfl rfl (by decide +kernel) ⟨Nat.le_of_ble_eq_true rfl, Nat.le_of_ble_eq_true rfl⟩) rfl rfl rfl hK hP hD hS hA rfl hl.1 rfl (Nat.le_of_ble_eq_true rfl) dX3_wrong_2 ⟨Nat.le_of_ble_eq_true rfl, Nat.le_of_ble_eq_true rfl⟩ (fun r2 u2 H locs h2 hP hD hS => ?_)
  subst h2
  have hP : va_P D vwCl (hwW cI cJ cG R h_ c_ d_ w_ v_ t_ rk_ ro_ rc_ al_ b_ ka_ na_ jo_ me_ wo_ fd_ nr_ nc_ sc_ ar ac K n dn wn vn tk kn M C al kd me px pcs bt wo le F fc nr nc sc) H := hP
  have hD : va_D A (hwW cI cJ cG R h_ c_ d_ w_ v_ t_ rk_ ro_ rc_ al_ b_ ka_ na_ jo_ me_ wo_ fd_ nr_ nc_ sc_ ar ac K n dn wn vn tk kn M C al kd me px pcs bt wo le F fc nr nc sc) := hD
  refine lv_if_eq (tgt := 21) hx hb dX3_wrong_5 (by decide) (fun c5 => ?_) (fun c5 => ?_)
  · skip
    have hB5 := bI_0.mp c5
    have hB : (inB x K && (inB y K || decide (y = -1))) = false := by rw [hB5]; rfl
    refine lv_ldc2 (v := -1) hx hb hown (hts (.constantLong RX3 102 (-1)) (by decide +kernel)) dX3_wrong_21 ?_
    subst hQe
    subst hAe
    subst hsz
    exact g_lret hx hb hr hlocks (al, sc) (by rw [hB]; rfl) hP hK hD hS dX3_wrong_24
  · skip
    have hB5 := bI_n0.mp c5
    obtain ⟨a, ha_, rfl⟩ := inB_of hB5 (by omega)
    refine lv_aload_n hx hb dX3_wrong_8 rfl (lv_at hl 0 rfl) ?_
    refine lv_iload_n hx hb dX3_wrong_9 rfl (lv_at hl 2 rfl) ?_
    refine gc_Vi (As := [.int y]) (rest := []) (ci := 4) (q0 := 0) ⟨hx, hb, hml, hown, hts⟩ (c_X3_isKind l D cI cJ cG H.size _ h_ c_ t_ b_ wo_ fd_ nr_ nc_ sc_ K fc le y hK4) (cwV 1 hts gX3_wrong_X3_isKind rfl rfl rfl (by decide +kernel) ⟨Nat.le_of_ble_eq_true rfl, Nat.le_of_ble_eq_true rfl⟩) rfl rfl rfl hK hP hD hS hA rfl hl.1 rfl (Nat.le_of_ble_eq_true rfl) dX3_wrong_10 ⟨Nat.le_of_ble_eq_true rfl, Nat.le_of_ble_eq_true rfl⟩ (fun r10 u10 H locs h10 hP hD hS => ?_)
    subst h10
    have hP : va_P D vwCl (hwW cI cJ cG R h_ c_ d_ w_ v_ t_ rk_ ro_ rc_ al_ b_ ka_ na_ jo_ me_ wo_ fd_ nr_ nc_ sc_ ar ac K n dn wn vn tk kn M C al kd me px pcs bt wo le F fc nr nc sc) H := hP
    have hD : va_D A (hwW cI cJ cG R h_ c_ d_ w_ v_ t_ rk_ ro_ rc_ al_ b_ ka_ na_ jo_ me_ wo_ fd_ nr_ nc_ sc_ ar ac K n dn wn vn tk kn M C al kd me px pcs bt wo le F fc nr nc sc) := hD
    refine lv_if_ne (tgt := 25) hx hb dX3_wrong_13 (by decide) (fun c13 => ?_) (fun c13 => ?_)
    · skip
      have hB : (inB (nI a) K && (inB y K || decide (y = -1))) = true := by rw [hB5, bI_n0.mp c13]; rfl
      refine lv_lconst (v := 0) hx hb dX3_wrong_25 (by decide) ?_
      refine lv_lstore_n (lv' := [(3, .long 0), (0, .ref h_), (1, .int (nI a)), (2, .int y)]) hx hb dX3_wrong_26 rfl hl (by decide) rfl (fun ls hl => ?_)
      refine lv_aload_n hx hb dX3_wrong_27 rfl (lv_at hl 1 rfl) ?_
      refine va_get (D := D) (ci := 4) (v := .ref t_) (C := RX3) (T := TX3) (N := 11) hx hb hts in_X3 hown hK hP 0 rfl rfl 2 (by decide) f_25 (fun _ h9 => h9) rfl dX3_wrong_28 ?_
      have hP := sw_5_6_7_8_9_of_20_P hP
      have hD := sw_5_6_7_8_9_of_20_D hD
      refine gc_Vi (As := []) (rest := []) (ci := 3) (q0 := 0) ⟨hx, hb, hml, hown, hts⟩ (c_X2_size l D cI cJ cG H.size _ t_ rk_ ro_ rc_ al_ ar ac K n kn M C al ) (cwV 0 hts gX3_wrong_X2_size rfl rfl rfl (by decide +kernel) ⟨Nat.le_of_ble_eq_true rfl, Nat.le_of_ble_eq_true rfl⟩) rfl rfl rfl hK hP hD hS hA rfl hl.1 rfl (Nat.le_of_ble_eq_true rfl) dX3_wrong_31 ⟨Nat.le_of_ble_eq_true rfl, Nat.le_of_ble_eq_true rfl⟩ (fun r31 u31 H locs h31 hP hD hS => ?_)
      subst h31
      have hP := sw_5_6_7_8_9_of_20_Pb hP
      have hD := sw_5_6_7_8_9_of_20_Db hD
      have hP : va_P D vwCl (hwW cI cJ cG R h_ c_ d_ w_ v_ t_ rk_ ro_ rc_ al_ b_ ka_ na_ jo_ me_ wo_ fd_ nr_ nc_ sc_ ar ac K n dn wn vn tk kn M C al kd me px pcs bt wo le F fc nr nc sc) H := hP
      have hD : va_D A (hwW cI cJ cG R h_ c_ d_ w_ v_ t_ rk_ ro_ rc_ al_ b_ ka_ na_ jo_ me_ wo_ fd_ nr_ nc_ sc_ ar ac K n dn wn vn tk kn M C al kd me px pcs bt wo le F fc nr nc sc) := hD
      refine lv_istore (lv' := [(5, .int (nI n)), (3, .long 0), (0, .ref h_), (1, .int (nI a)), (2, .int y)]) hx hb dX3_wrong_34 hl (by decide) rfl (fun ls hl => ?_)
      refine lv_iconst (v := 0) hx hb dX3_wrong_36 (by decide) ?_
      refine lv_istore (lv' := [(6, .int 0), (5, .int (nI n)), (3, .long 0), (0, .ref h_), (1, .int (nI a)), (2, .int y)]) hx hb dX3_wrong_37 hl (by decide) rfl (fun ls hl => ?_)
      have L_39 : ∀ (n_39 : Nat) (i : Nat) (al1 sc1 : Nat → Nat) (hi : i ≤ n), n - i < n_39 → ∀ (H : Heap) (locs : List Loc) (ls : Array Slot), va_P D vwCl (hwW cI cJ cG R h_ c_ d_ w_ v_ t_ rk_ ro_ rc_ al_ b_ ka_ na_ jo_ me_ wo_ fd_ nr_ nc_ sc_ ar ac K n dn wn vn tk kn M C al1 kd me px pcs bt wo le F fc nr nc sc1) H → va_D A (hwW cI cJ cG R h_ c_ d_ w_ v_ t_ rk_ ro_ rc_ al_ b_ ka_ na_ jo_ me_ wo_ fd_ nr_ nc_ sc_ ar ac K n dn wn vn tk kn M C al1 kd me px pcs bt wo le F fc nr nc sc1) → va_S A s.heap H locs → lv_has ls 7 [(6, .int (nI i)), (3, .long (lN (cnt (wrP kn C n wo le K a y) i))), (5, .int (nI n)), (0, .ref h_), (1, .int (nI a)), (2, .int y)] → W p l e (headSpec wsX3_wrong rX3_wrong).room s m ([.ref h_, .int (nI a), .int y] : List Value).toArray below meth c H locs 0 0 Q (F0 m 39 ls []) := by
        intro n_39
        induction n_39 with
        | zero => intro i al1 sc1 hi hn_; exact absurd hn_ (Nat.not_lt_zero _)
        | succ n_39 ih_39 =>
          intro i al1 sc1 hi hn_39 H locs ls hP hD hS hl
          refine lv_iload hx hb dX3_wrong_39 (lv_at hl 0 rfl) ?_
          refine lv_iload hx hb dX3_wrong_41 (lv_at hl 2 rfl) ?_
          refine lv_icmp_ge (tgt := 79) hx hb dX3_wrong_43 (by decide) (fun c43 => ?_) (fun c43 => ?_)
          · skip
            have hE43 := lp_e (n := n) c43 hi
            subst hE43
            refine lv_lload_n hx hb dX3_wrong_79 rfl (lv_at hl 1 rfl) ?_
            subst hQe
            subst hAe
            subst hsz
            exact g_lret hx hb hr hlocks (al1, sc1) (by rw [hB, nI_clamp (by omega)]; rfl) hP hK hD hS dX3_wrong_80
          · skip
            have hi8 := lp_l (n := n) c43 hi
            have hki := hkn i
            refine lv_aload_n hx hb dX3_wrong_46 rfl (lv_at hl 3 rfl) ?_
            refine va_get (D := D) (ci := 4) (v := .ref t_) (C := RX3) (T := TX3) (N := 11) hx hb hts in_X3 hown hK hP 0 rfl rfl 2 (by decide) f_25 (fun _ h9 => h9) rfl dX3_wrong_47 ?_
            refine lv_iload hx hb dX3_wrong_50 (lv_at hl 0 rfl) ?_
            have hP := sw_5_6_7_8_9_of_20_P hP
            have hD := sw_5_6_7_8_9_of_20_D hD
            refine gc_Vi (As := [.int (nI i)]) (rest := []) (ci := 3) (q0 := 0) ⟨hx, hb, hml, hown, hts⟩ (c_X2_kindOf l D cI cJ cG H.size _ t_ rk_ ro_ rc_ al_ ar ac K n kn M C al1 i (by omega)) (cwV 1 hts gX3_wrong_X2_kindOf rfl rfl rfl (by decide +kernel) ⟨Nat.le_of_ble_eq_true rfl, Nat.le_of_ble_eq_true rfl⟩) rfl rfl rfl hK hP hD hS hA rfl hl.1 rfl (Nat.le_of_ble_eq_true rfl) dX3_wrong_52 ⟨Nat.le_of_ble_eq_true rfl, Nat.le_of_ble_eq_true rfl⟩ (fun r52 u52 H locs h52 hP hD hS => ?_)
            subst h52
            have hP := sw_5_6_7_8_9_of_20_Pb hP
            have hD := sw_5_6_7_8_9_of_20_Db hD
            have hP : va_P D vwCl (hwW cI cJ cG R h_ c_ d_ w_ v_ t_ rk_ ro_ rc_ al_ b_ ka_ na_ jo_ me_ wo_ fd_ nr_ nc_ sc_ ar ac K n dn wn vn tk kn M C al1 kd me px pcs bt wo le F fc nr nc sc1) H := hP
            have hD : va_D A (hwW cI cJ cG R h_ c_ d_ w_ v_ t_ rk_ ro_ rc_ al_ b_ ka_ na_ jo_ me_ wo_ fd_ nr_ nc_ sc_ ar ac K n dn wn vn tk kn M C al1 kd me px pcs bt wo le F fc nr nc sc1) := hD
            refine lv_iload_n hx hb dX3_wrong_55 rfl (lv_at hl 4 rfl) ?_
            refine lv_icmp_ne (tgt := 73) hx hb dX3_wrong_56 (by decide) (fun c56 => ?_) (fun c56 => ?_)
            · skip
              have hno : (wrP kn C n wo le K a y) i = false := by simp [wrP, mt (fun h => congrArg nI h) c56]
              rw [cnt_n hno] at hl
              obtain ⟨x73, ex73⟩ : ∃ y : Int32, y = (nI i) + 1 := ⟨_, rfl⟩
              refine lv_iinc (v := x73) (lv' := [(6, .int x73), (3, .long (lN (cnt (wrP kn C n wo le K a y) (i + 1)))), (5, .int (nI n)), (0, .ref h_), (1, .int (nI a)), (2, .int y)]) hx hb dX3_wrong_73 hl (k := 0) rfl (by rw [ex73]; rfl) (by decide) rfl (fun ls hl => ?_)
              obtain rfl : x73 = nI (i + 1) := by rw [ex73]; exact nI_1 _
              refine lv_goto (tgt := 39) hx hb dX3_wrong_76 (by decide) ?_
              exact ih_39 (i + 1) _ _ (by omega) (by omega) H locs ls hP hD hS (lv_sub hl [0, 1, 2, 3, 4, 5] rfl)
            · skip
              have hke : kn i = a := (nI_eq (by omega) (by omega)).mp c56
              refine lv_aload_n hx hb dX3_wrong_59 rfl (lv_at hl 3 rfl) ?_
              refine lv_iload hx hb dX3_wrong_60 (lv_at hl 0 rfl) ?_
              refine gc_Vi (As := [.int (nI i)]) (rest := []) (ci := 4) (q0 := 0) ⟨hx, hb, hml, hown, hts⟩ (c_X3_readWithout l D cI cJ cG H.size R h_ c_ d_ w_ v_ t_ rk_ ro_ rc_ al_ b_ ka_ na_ jo_ me_ wo_ fd_ nr_ nc_ sc_ ar ac K n dn wn vn tk kn M C al1 kd me px pcs bt wo le F fc nr nc sc1 i hi8 hI) (cwV 1 hts gX3_wrong_X3_readWithout rfl rfl rfl (by decide +kernel) ⟨Nat.le_of_ble_eq_true rfl, Nat.le_of_ble_eq_true rfl⟩) rfl rfl rfl hK hP hD hS hA rfl hl.1 rfl (Nat.le_of_ble_eq_true rfl) dX3_wrong_62 ⟨Nat.le_of_ble_eq_true rfl, Nat.le_of_ble_eq_true rfl⟩ (fun r62 u62 H locs h62 hP hD hS => ?_)
              subst h62
              have hP : va_P D vwCl (hwW cI cJ cG R h_ c_ d_ w_ v_ t_ rk_ ro_ rc_ al_ b_ ka_ na_ jo_ me_ wo_ fd_ nr_ nc_ sc_ ar ac K n dn wn vn tk kn M C u62.1 kd me px pcs bt wo le F fc nr nc u62.2) H := hP
              have hD : va_D A (hwW cI cJ cG R h_ c_ d_ w_ v_ t_ rk_ ro_ rc_ al_ b_ ka_ na_ jo_ me_ wo_ fd_ nr_ nc_ sc_ ar ac K n dn wn vn tk kn M C u62.1 kd me px pcs bt wo le F fc nr nc u62.2) := hD
              refine lv_iload_n hx hb dX3_wrong_65 rfl (lv_at hl 5 rfl) ?_
              refine lv_icmp_ne (tgt := 73) hx hb dX3_wrong_66 (by decide) (fun c66 => ?_) (fun c66 => ?_)
              · skip
                have hno : (wrP kn C n wo le K a y) i = false := by simp [wrP, c66]
                rw [cnt_n hno] at hl
                obtain ⟨x73, ex73⟩ : ∃ y : Int32, y = (nI i) + 1 := ⟨_, rfl⟩
                refine lv_iinc (v := x73) (lv' := [(6, .int x73), (3, .long (lN (cnt (wrP kn C n wo le K a y) (i + 1)))), (5, .int (nI n)), (0, .ref h_), (1, .int (nI a)), (2, .int y)]) hx hb dX3_wrong_73 hl (k := 0) rfl (by rw [ex73]; rfl) (by decide) rfl (fun ls hl => ?_)
                obtain rfl : x73 = nI (i + 1) := by rw [ex73]; exact nI_1 _
                refine lv_goto (tgt := 39) hx hb dX3_wrong_76 (by decide) ?_
                exact ih_39 (i + 1) _ _ (by omega) (by omega) H locs ls hP hD hS (lv_sub hl [0, 1, 2, 3, 4, 5] rfl)
              · skip
                have hyes : (wrP kn C n wo le K a y) i = true := by simp [wrP, hke, c66]
                refine lv_lload_n hx hb dX3_wrong_69 rfl (lv_at hl 1 rfl) ?_
                refine lv_lconst (v := 1) hx hb dX3_wrong_70 (by decide) ?_
                refine lv_ladd hx hb dX3_wrong_71 ?_
                refine lv_topl (fun x71 ex71 => ?_)
                obtain rfl : x71 = lN (cnt (wrP kn C n wo le K a y) (i + 1)) := by rw [ex71, lN_1, cnt_s hyes]
                refine lv_lstore_n (lv' := [(3, .long (lN (cnt (wrP kn C n wo le K a y) (i + 1)))), (6, .int (nI i)), (5, .int (nI n)), (0, .ref h_), (1, .int (nI a)), (2, .int y)]) hx hb dX3_wrong_72 rfl hl (by decide) rfl (fun ls hl => ?_)
                obtain ⟨x73, ex73⟩ : ∃ y : Int32, y = (nI i) + 1 := ⟨_, rfl⟩
                refine lv_iinc (v := x73) (lv' := [(6, .int x73), (3, .long (lN (cnt (wrP kn C n wo le K a y) (i + 1)))), (5, .int (nI n)), (0, .ref h_), (1, .int (nI a)), (2, .int y)]) hx hb dX3_wrong_73 hl (k := 1) rfl (by rw [ex73]; rfl) (by decide) rfl (fun ls hl => ?_)
                obtain rfl : x73 = nI (i + 1) := by rw [ex73]; exact nI_1 _
                refine lv_goto (tgt := 39) hx hb dX3_wrong_76 (by decide) ?_
                exact ih_39 (i + 1) _ _ (by omega) (by omega) H locs ls hP hD hS (lv_sub hl [0, 1, 2, 3, 4, 5] rfl)
      exact L_39 _ 0 al sc (Nat.zero_le _) (Nat.lt_succ_self _) H locs ls hP hD hS (lv_sub hl [0, 2, 1, 3, 4, 5] rfl)
    · skip
      have hB13 := bI_0.mp c13
      refine lv_iload_n hx hb dX3_wrong_16 rfl (lv_at hl 2 rfl) ?_
      refine lv_iconst (v := -1) hx hb dX3_wrong_17 (by decide) ?_
      refine lv_icmp_eq (tgt := 25) hx hb dX3_wrong_18 (by decide) (fun c18 => ?_) (fun c18 => ?_)
      · skip
        have hB : (inB (nI a) K && (inB y K || decide (y = -1))) = true := by rw [hB5, decide_eq_true c18, Bool.or_true]; rfl
        refine lv_lconst (v := 0) hx hb dX3_wrong_25 (by decide) ?_
        refine lv_lstore_n (lv' := [(3, .long 0), (0, .ref h_), (1, .int (nI a)), (2, .int y)]) hx hb dX3_wrong_26 rfl hl (by decide) rfl (fun ls hl => ?_)
        refine lv_aload_n hx hb dX3_wrong_27 rfl (lv_at hl 1 rfl) ?_
        refine va_get (D := D) (ci := 4) (v := .ref t_) (C := RX3) (T := TX3) (N := 11) hx hb hts in_X3 hown hK hP 0 rfl rfl 2 (by decide) f_25 (fun _ h9 => h9) rfl dX3_wrong_28 ?_
        have hP := sw_5_6_7_8_9_of_20_P hP
        have hD := sw_5_6_7_8_9_of_20_D hD
        refine gc_Vi (As := []) (rest := []) (ci := 3) (q0 := 0) ⟨hx, hb, hml, hown, hts⟩ (c_X2_size l D cI cJ cG H.size _ t_ rk_ ro_ rc_ al_ ar ac K n kn M C al ) (cwV 0 hts gX3_wrong_X2_size rfl rfl rfl (by decide +kernel) ⟨Nat.le_of_ble_eq_true rfl, Nat.le_of_ble_eq_true rfl⟩) rfl rfl rfl hK hP hD hS hA rfl hl.1 rfl (Nat.le_of_ble_eq_true rfl) dX3_wrong_31 ⟨Nat.le_of_ble_eq_true rfl, Nat.le_of_ble_eq_true rfl⟩ (fun r31 u31 H locs h31 hP hD hS => ?_)
        subst h31
        have hP := sw_5_6_7_8_9_of_20_Pb hP
        have hD := sw_5_6_7_8_9_of_20_Db hD
        have hP : va_P D vwCl (hwW cI cJ cG R h_ c_ d_ w_ v_ t_ rk_ ro_ rc_ al_ b_ ka_ na_ jo_ me_ wo_ fd_ nr_ nc_ sc_ ar ac K n dn wn vn tk kn M C al kd me px pcs bt wo le F fc nr nc sc) H := hP
        have hD : va_D A (hwW cI cJ cG R h_ c_ d_ w_ v_ t_ rk_ ro_ rc_ al_ b_ ka_ na_ jo_ me_ wo_ fd_ nr_ nc_ sc_ ar ac K n dn wn vn tk kn M C al kd me px pcs bt wo le F fc nr nc sc) := hD
        refine lv_istore (lv' := [(5, .int (nI n)), (3, .long 0), (0, .ref h_), (1, .int (nI a)), (2, .int y)]) hx hb dX3_wrong_34 hl (by decide) rfl (fun ls hl => ?_)
        refine lv_iconst (v := 0) hx hb dX3_wrong_36 (by decide) ?_
        refine lv_istore (lv' := [(6, .int 0), (5, .int (nI n)), (3, .long 0), (0, .ref h_), (1, .int (nI a)), (2, .int y)]) hx hb dX3_wrong_37 hl (by decide) rfl (fun ls hl => ?_)
        have L_39 : ∀ (n_39 : Nat) (i : Nat) (al1 sc1 : Nat → Nat) (hi : i ≤ n), n - i < n_39 → ∀ (H : Heap) (locs : List Loc) (ls : Array Slot), va_P D vwCl (hwW cI cJ cG R h_ c_ d_ w_ v_ t_ rk_ ro_ rc_ al_ b_ ka_ na_ jo_ me_ wo_ fd_ nr_ nc_ sc_ ar ac K n dn wn vn tk kn M C al1 kd me px pcs bt wo le F fc nr nc sc1) H → va_D A (hwW cI cJ cG R h_ c_ d_ w_ v_ t_ rk_ ro_ rc_ al_ b_ ka_ na_ jo_ me_ wo_ fd_ nr_ nc_ sc_ ar ac K n dn wn vn tk kn M C al1 kd me px pcs bt wo le F fc nr nc sc1) → va_S A s.heap H locs → lv_has ls 7 [(6, .int (nI i)), (3, .long (lN (cnt (wrP kn C n wo le K a y) i))), (5, .int (nI n)), (0, .ref h_), (1, .int (nI a)), (2, .int y)] → W p l e (headSpec wsX3_wrong rX3_wrong).room s m ([.ref h_, .int (nI a), .int y] : List Value).toArray below meth c H locs 0 0 Q (F0 m 39 ls []) := by
          intro n_39
          induction n_39 with
          | zero => intro i al1 sc1 hi hn_; exact absurd hn_ (Nat.not_lt_zero _)
          | succ n_39 ih_39 =>
            intro i al1 sc1 hi hn_39 H locs ls hP hD hS hl
            refine lv_iload hx hb dX3_wrong_39 (lv_at hl 0 rfl) ?_
            refine lv_iload hx hb dX3_wrong_41 (lv_at hl 2 rfl) ?_
            refine lv_icmp_ge (tgt := 79) hx hb dX3_wrong_43 (by decide) (fun c43 => ?_) (fun c43 => ?_)
            · skip
              have hE43 := lp_e (n := n) c43 hi
              subst hE43
              refine lv_lload_n hx hb dX3_wrong_79 rfl (lv_at hl 1 rfl) ?_
              subst hQe
              subst hAe
              subst hsz
              exact g_lret hx hb hr hlocks (al1, sc1) (by rw [hB, nI_clamp (by omega)]; rfl) hP hK hD hS dX3_wrong_80
            · skip
              have hi8 := lp_l (n := n) c43 hi
              have hki := hkn i
              refine lv_aload_n hx hb dX3_wrong_46 rfl (lv_at hl 3 rfl) ?_
              refine va_get (D := D) (ci := 4) (v := .ref t_) (C := RX3) (T := TX3) (N := 11) hx hb hts in_X3 hown hK hP 0 rfl rfl 2 (by decide) f_25 (fun _ h9 => h9) rfl dX3_wrong_47 ?_
              refine lv_iload hx hb dX3_wrong_50 (lv_at hl 0 rfl) ?_
              have hP := sw_5_6_7_8_9_of_20_P hP
              have hD := sw_5_6_7_8_9_of_20_D hD
              refine gc_Vi (As := [.int (nI i)]) (rest := []) (ci := 3) (q0 := 0) ⟨hx, hb, hml, hown, hts⟩ (c_X2_kindOf l D cI cJ cG H.size _ t_ rk_ ro_ rc_ al_ ar ac K n kn M C al1 i (by omega)) (cwV 1 hts gX3_wrong_X2_kindOf rfl rfl rfl (by decide +kernel) ⟨Nat.le_of_ble_eq_true rfl, Nat.le_of_ble_eq_true rfl⟩) rfl rfl rfl hK hP hD hS hA rfl hl.1 rfl (Nat.le_of_ble_eq_true rfl) dX3_wrong_52 ⟨Nat.le_of_ble_eq_true rfl, Nat.le_of_ble_eq_true rfl⟩ (fun r52 u52 H locs h52 hP hD hS => ?_)
              subst h52
              have hP := sw_5_6_7_8_9_of_20_Pb hP
              have hD := sw_5_6_7_8_9_of_20_Db hD
              have hP : va_P D vwCl (hwW cI cJ cG R h_ c_ d_ w_ v_ t_ rk_ ro_ rc_ al_ b_ ka_ na_ jo_ me_ wo_ fd_ nr_ nc_ sc_ ar ac K n dn wn vn tk kn M C al1 kd me px pcs bt wo le F fc nr nc sc1) H := hP
              have hD : va_D A (hwW cI cJ cG R h_ c_ d_ w_ v_ t_ rk_ ro_ rc_ al_ b_ ka_ na_ jo_ me_ wo_ fd_ nr_ nc_ sc_ ar ac K n dn wn vn tk kn M C al1 kd me px pcs bt wo le F fc nr nc sc1) := hD
              refine lv_iload_n hx hb dX3_wrong_55 rfl (lv_at hl 4 rfl) ?_
              refine lv_icmp_ne (tgt := 73) hx hb dX3_wrong_56 (by decide) (fun c56 => ?_) (fun c56 => ?_)
              · skip
                have hno : (wrP kn C n wo le K a y) i = false := by simp [wrP, mt (fun h => congrArg nI h) c56]
                rw [cnt_n hno] at hl
                obtain ⟨x73, ex73⟩ : ∃ y : Int32, y = (nI i) + 1 := ⟨_, rfl⟩
                refine lv_iinc (v := x73) (lv' := [(6, .int x73), (3, .long (lN (cnt (wrP kn C n wo le K a y) (i + 1)))), (5, .int (nI n)), (0, .ref h_), (1, .int (nI a)), (2, .int y)]) hx hb dX3_wrong_73 hl (k := 0) rfl (by rw [ex73]; rfl) (by decide) rfl (fun ls hl => ?_)
                obtain rfl : x73 = nI (i + 1) := by rw [ex73]; exact nI_1 _
                refine lv_goto (tgt := 39) hx hb dX3_wrong_76 (by decide) ?_
                exact ih_39 (i + 1) _ _ (by omega) (by omega) H locs ls hP hD hS (lv_sub hl [0, 1, 2, 3, 4, 5] rfl)
              · skip
                have hke : kn i = a := (nI_eq (by omega) (by omega)).mp c56
                refine lv_aload_n hx hb dX3_wrong_59 rfl (lv_at hl 3 rfl) ?_
                refine lv_iload hx hb dX3_wrong_60 (lv_at hl 0 rfl) ?_
                refine gc_Vi (As := [.int (nI i)]) (rest := []) (ci := 4) (q0 := 0) ⟨hx, hb, hml, hown, hts⟩ (c_X3_readWithout l D cI cJ cG H.size R h_ c_ d_ w_ v_ t_ rk_ ro_ rc_ al_ b_ ka_ na_ jo_ me_ wo_ fd_ nr_ nc_ sc_ ar ac K n dn wn vn tk kn M C al1 kd me px pcs bt wo le F fc nr nc sc1 i hi8 hI) (cwV 1 hts gX3_wrong_X3_readWithout rfl rfl rfl (by decide +kernel) ⟨Nat.le_of_ble_eq_true rfl, Nat.le_of_ble_eq_true rfl⟩) rfl rfl rfl hK hP hD hS hA rfl hl.1 rfl (Nat.le_of_ble_eq_true rfl) dX3_wrong_62 ⟨Nat.le_of_ble_eq_true rfl, Nat.le_of_ble_eq_true rfl⟩ (fun r62 u62 H locs h62 hP hD hS => ?_)
                subst h62
                have hP : va_P D vwCl (hwW cI cJ cG R h_ c_ d_ w_ v_ t_ rk_ ro_ rc_ al_ b_ ka_ na_ jo_ me_ wo_ fd_ nr_ nc_ sc_ ar ac K n dn wn vn tk kn M C u62.1 kd me px pcs bt wo le F fc nr nc u62.2) H := hP
                have hD : va_D A (hwW cI cJ cG R h_ c_ d_ w_ v_ t_ rk_ ro_ rc_ al_ b_ ka_ na_ jo_ me_ wo_ fd_ nr_ nc_ sc_ ar ac K n dn wn vn tk kn M C u62.1 kd me px pcs bt wo le F fc nr nc u62.2) := hD
                refine lv_iload_n hx hb dX3_wrong_65 rfl (lv_at hl 5 rfl) ?_
                refine lv_icmp_ne (tgt := 73) hx hb dX3_wrong_66 (by decide) (fun c66 => ?_) (fun c66 => ?_)
                · skip
                  have hno : (wrP kn C n wo le K a y) i = false := by simp [wrP, c66]
                  rw [cnt_n hno] at hl
                  obtain ⟨x73, ex73⟩ : ∃ y : Int32, y = (nI i) + 1 := ⟨_, rfl⟩
                  refine lv_iinc (v := x73) (lv' := [(6, .int x73), (3, .long (lN (cnt (wrP kn C n wo le K a y) (i + 1)))), (5, .int (nI n)), (0, .ref h_), (1, .int (nI a)), (2, .int y)]) hx hb dX3_wrong_73 hl (k := 0) rfl (by rw [ex73]; rfl) (by decide) rfl (fun ls hl => ?_)
                  obtain rfl : x73 = nI (i + 1) := by rw [ex73]; exact nI_1 _
                  refine lv_goto (tgt := 39) hx hb dX3_wrong_76 (by decide) ?_
                  exact ih_39 (i + 1) _ _ (by omega) (by omega) H locs ls hP hD hS (lv_sub hl [0, 1, 2, 3, 4, 5] rfl)
                · skip
                  have hyes : (wrP kn C n wo le K a y) i = true := by simp [wrP, hke, c66]
                  refine lv_lload_n hx hb dX3_wrong_69 rfl (lv_at hl 1 rfl) ?_
                  refine lv_lconst (v := 1) hx hb dX3_wrong_70 (by decide) ?_
                  refine lv_ladd hx hb dX3_wrong_71 ?_
                  refine lv_topl (fun x71 ex71 => ?_)
                  obtain rfl : x71 = lN (cnt (wrP kn C n wo le K a y) (i + 1)) := by rw [ex71, lN_1, cnt_s hyes]
                  refine lv_lstore_n (lv' := [(3, .long (lN (cnt (wrP kn C n wo le K a y) (i + 1)))), (6, .int (nI i)), (5, .int (nI n)), (0, .ref h_), (1, .int (nI a)), (2, .int y)]) hx hb dX3_wrong_72 rfl hl (by decide) rfl (fun ls hl => ?_)
                  obtain ⟨x73, ex73⟩ : ∃ y : Int32, y = (nI i) + 1 := ⟨_, rfl⟩
                  refine lv_iinc (v := x73) (lv' := [(6, .int x73), (3, .long (lN (cnt (wrP kn C n wo le K a y) (i + 1)))), (5, .int (nI n)), (0, .ref h_), (1, .int (nI a)), (2, .int y)]) hx hb dX3_wrong_73 hl (k := 1) rfl (by rw [ex73]; rfl) (by decide) rfl (fun ls hl => ?_)
                  obtain rfl : x73 = nI (i + 1) := by rw [ex73]; exact nI_1 _
                  refine lv_goto (tgt := 39) hx hb dX3_wrong_76 (by decide) ?_
                  exact ih_39 (i + 1) _ _ (by omega) (by omega) H locs ls hP hD hS (lv_sub hl [0, 1, 2, 3, 4, 5] rfl)
        exact L_39 _ 0 al sc (Nat.zero_le _) (Nat.lt_succ_self _) H locs ls hP hD hS (lv_sub hl [0, 2, 1, 3, 4, 5] rfl)
      · skip
        have hB : (inB (nI a) K && (inB y K || decide (y = -1))) = false := by rw [hB13, decide_eq_false c18]; cases inB (nI a) K <;> rfl
        refine lv_ldc2 (v := -1) hx hb hown (hts (.constantLong RX3 102 (-1)) (by decide +kernel)) dX3_wrong_21 ?_
        subst hQe
        subst hAe
        subst hsz
        exact g_lret hx hb hr hlocks (al, sc) (by rw [hB]; rfl) hP hK hD hS dX3_wrong_24
theorem sw_5_6_7_8_9_17_of_20_P {D : va_G} {cl : List vw_C} {H : Heap} {x0 x1 x2 x3 x4 x5 x6 x7 x8 x9 x10 x11 x12 x13 x14 x15 x16 x17 x18 x19 : Nat × va_E} {p q R : va_W} (h : va_P D cl (x0 :: x1 :: x2 :: x3 :: x4 :: x5 :: x6 :: x7 :: x8 :: x9 :: x10 :: x11 :: x12 :: x13 :: x14 :: x15 :: x16 :: x17 :: x18 :: x19 :: (p ++ (q ++ R))) H) : va_P D cl (x5 :: x6 :: x7 :: x8 :: x9 :: x17 :: (p ++ (q ++ (R ++ [x0, x1, x2, x3, x4, x10, x11, x12, x13, x14, x15, x16, x18, x19])))) H := sw_P (Xt := [x5, x6, x7, x8, x9, x17]) (Xo := [x0, x1, x2, x3, x4, x10, x11, x12, x13, x14, x15, x16, x18, x19]) (va_P.part (X := [x0, x1, x2, x3, x4, x5, x6, x7, x8, x9, x10, x11, x12, x13, x14, x15, x16, x17, x18, x19]) (pl := p ++ (q ++ R)) (cx := [x5, x6, x7, x8, x9, x17, x0, x1, x2, x3, x4, x10, x11, x12, x13, x14, x15, x16, x18, x19]) h [5, 6, 7, 8, 9, 17, 0, 1, 2, 3, 4, 10, 11, 12, 13, 14, 15, 16, 18, 19] rfl)
theorem sw_5_6_7_8_9_17_of_20_D {A : Nat → Prop} {x0 x1 x2 x3 x4 x5 x6 x7 x8 x9 x10 x11 x12 x13 x14 x15 x16 x17 x18 x19 : Nat × va_E} {p q R : va_W} (h : va_D A (x0 :: x1 :: x2 :: x3 :: x4 :: x5 :: x6 :: x7 :: x8 :: x9 :: x10 :: x11 :: x12 :: x13 :: x14 :: x15 :: x16 :: x17 :: x18 :: x19 :: (p ++ (q ++ R)))) : va_D A (x5 :: x6 :: x7 :: x8 :: x9 :: x17 :: (p ++ (q ++ (R ++ [x0, x1, x2, x3, x4, x10, x11, x12, x13, x14, x15, x16, x18, x19])))) := sw_D (Xt := [x5, x6, x7, x8, x9, x17]) (Xo := [x0, x1, x2, x3, x4, x10, x11, x12, x13, x14, x15, x16, x18, x19]) (va_D.part (X := [x0, x1, x2, x3, x4, x5, x6, x7, x8, x9, x10, x11, x12, x13, x14, x15, x16, x17, x18, x19]) (pl := p ++ (q ++ R)) (cx := [x5, x6, x7, x8, x9, x17, x0, x1, x2, x3, x4, x10, x11, x12, x13, x14, x15, x16, x18, x19]) h [5, 6, 7, 8, 9, 17, 0, 1, 2, 3, 4, 10, 11, 12, 13, 14, 15, 16, 18, 19] (by decide) rfl)
theorem sw_5_6_7_8_9_17_of_20_Pb {D : va_G} {cl : List vw_C} {H : Heap} {x0 x1 x2 x3 x4 x5 x6 x7 x8 x9 x10 x11 x12 x13 x14 x15 x16 x17 x18 x19 : Nat × va_E} {p q R : va_W} (h : va_P D cl (x5 :: x6 :: x7 :: x8 :: x9 :: x17 :: (p ++ (q ++ (R ++ [x0, x1, x2, x3, x4, x10, x11, x12, x13, x14, x15, x16, x18, x19])))) H) : va_P D cl (x0 :: x1 :: x2 :: x3 :: x4 :: x5 :: x6 :: x7 :: x8 :: x9 :: x10 :: x11 :: x12 :: x13 :: x14 :: x15 :: x16 :: x17 :: x18 :: x19 :: (p ++ (q ++ R))) H := va_P.part (X := [x5, x6, x7, x8, x9, x17, x0, x1, x2, x3, x4, x10, x11, x12, x13, x14, x15, x16, x18, x19]) (pl := p ++ (q ++ R)) (cx := [x0, x1, x2, x3, x4, x5, x6, x7, x8, x9, x10, x11, x12, x13, x14, x15, x16, x17, x18, x19]) (ws_P (Xt := [x5, x6, x7, x8, x9, x17]) (Xo := [x0, x1, x2, x3, x4, x10, x11, x12, x13, x14, x15, x16, x18, x19]) h) [6, 7, 8, 9, 10, 0, 1, 2, 3, 4, 11, 12, 13, 14, 15, 16, 17, 5, 18, 19] rfl
theorem sw_5_6_7_8_9_17_of_20_Db {A : Nat → Prop} {x0 x1 x2 x3 x4 x5 x6 x7 x8 x9 x10 x11 x12 x13 x14 x15 x16 x17 x18 x19 : Nat × va_E} {p q R : va_W} (h : va_D A (x5 :: x6 :: x7 :: x8 :: x9 :: x17 :: (p ++ (q ++ (R ++ [x0, x1, x2, x3, x4, x10, x11, x12, x13, x14, x15, x16, x18, x19]))))) : va_D A (x0 :: x1 :: x2 :: x3 :: x4 :: x5 :: x6 :: x7 :: x8 :: x9 :: x10 :: x11 :: x12 :: x13 :: x14 :: x15 :: x16 :: x17 :: x18 :: x19 :: (p ++ (q ++ R))) := va_D.part (X := [x5, x6, x7, x8, x9, x17, x0, x1, x2, x3, x4, x10, x11, x12, x13, x14, x15, x16, x18, x19]) (pl := p ++ (q ++ R)) (cx := [x0, x1, x2, x3, x4, x5, x6, x7, x8, x9, x10, x11, x12, x13, x14, x15, x16, x17, x18, x19]) (ws_D (Xt := [x5, x6, x7, x8, x9, x17]) (Xo := [x0, x1, x2, x3, x4, x10, x11, x12, x13, x14, x15, x16, x18, x19]) h) [6, 7, 8, 9, 10, 0, 1, 2, 3, 4, 11, 12, 13, 14, 15, 16, 17, 5, 18, 19] (by decide) rfl
abbrev rX3_teach : Room := { frames := 4, cells := 0, slots := 0, locals := 107 }
set_option maxHeartbeats 4000000 in
set_option maxRecDepth 100000 in
theorem c_X3_teach (l : Launch) (D : va_G) (cI cJ cG : ClassId) (sz : Nat) (R : va_W) (h_ c_ d_ w_ v_ t_ rk_ ro_ rc_ al_ b_ ka_ na_ jo_ me_ wo_ fd_ nr_ nc_ sc_ : Nat) (ar ac : Nat → Nat) (K : Nat) (n : Nat) (dn : Nat → Nat) (wn : Nat → Nat) (vn : Nat → Nat) (tk : Int64) (kn : Nat → Nat) (M : Nat → Nat → Nat) (C : Nat → Nat → Nat) (al : Nat → Nat) (kd : Nat → Nat) (me : Nat → Nat) (px : Nat) (pcs : Nat) (bt : Bst) (wo : Nat → Int64) (le : Int64) (F : Nat → Nat) (fc : Nat) (nr : Nat → Nat) (nc : Nat → Nat) (sc : Nat → Nat) (x : Int32) (hI : HI K n dn wn vn kn M C kd px pcs bt F fc nr nc) : Met l yX3_teach wsX3_teach rX3_teach (gP D (tyl cI cJ cG) [.ref h_, .int x] (hwW cI cJ cG R h_ c_ d_ w_ v_ t_ rk_ ro_ rc_ al_ b_ ka_ na_ jo_ me_ wo_ fd_ nr_ nc_ sc_ ar ac K n dn wn vn tk kn M C al kd me px pcs bt wo le F fc nr nc sc) sz) (gQi D (tyl cI cJ cG) (hwW cI cJ cG R h_ c_ d_ w_ v_ t_ rk_ ro_ rc_ al_ b_ ka_ na_ jo_ me_ wo_ fd_ nr_ nc_ sc_ ar ac K n dn wn vn tk kn M C al kd me px pcs bt wo le F fc nr nc sc) sz (fun r (u : Tst × (Nat → Nat) × (Nat → Nat)) => (r = if (inB x K && decide (n < 40)) = true then nI n else -1) ∧ (u.1 = if (inB x K && decide (n < 40)) = true then (n + 1, un kn n x.toNatClampNeg, tcM dn wn vn M n, tcC dn wn vn M C n) else (n, kn, M, C)) ∧ (∀ k, u.2.1 k ≤ 255) ∧ (∀ k, u.2.2 k < 8)) (fun u => (hwW cI cJ cG R h_ c_ d_ w_ v_ t_ rk_ ro_ rc_ al_ b_ ka_ na_ jo_ me_ wo_ fd_ nr_ nc_ sc_ ar ac K u.1.1 dn wn vn tk u.1.2.1 u.1.2.2.1 u.1.2.2.2 al kd me px pcs bt wo le F fc u.2.1 u.2.2 sc))) 0 0 (va_A (hwW cI cJ cG R h_ c_ d_ w_ v_ t_ rk_ ro_ rc_ al_ b_ ka_ na_ jo_ me_ wo_ fd_ nr_ nc_ sc_ ar ac K n dn wn vn tk kn M C al kd me px pcs bt wo le F fc nr nc sc) sz) := by
  refine gMet (cc := cX3_teach) (maxL := 2) (ret := (some .int)) (ls0 := [(0, .ref h_), (1, .int x)]) (by decide) rfl (Nat.le_of_ble_eq_true rfl) rfl ?_
  intro p e s m below meth c hx hb hr hts hown hlocks hml hname A hA hAe hsz Q hQe H locs hP hK hD hS ls hl
  have hown : s.vm.findClass RX3 = some m.cls := hown
  have in_X3 : ∀ w ∈ wsX30, w ∈ wsX3_teach := by decide +kernel
  have f_25 := hts (.fieldLink RX3 25 "SpectrumHeads" "table" "LSpectrumHeads$Table;") (by decide +kernel)
  have f_51 := hts (.fieldLink RX3 51 "SpectrumHeads" "nowRow" "[I") (by decide +kernel)
  obtain ⟨⟨hK1, hK4⟩, hn, ⟨hdn, hwn, hvn⟩, ⟨hkn, hM, hC⟩, ⟨hkd, hpx, hpcs, hbt⟩, ⟨hF, hfc⟩, ⟨hnr, hnc⟩⟩ := id hI
  refine lv_aload_n hx hb dX3_teach_0 rfl (lv_at hl 0 rfl) ?_
  refine lv_iload_n hx hb dX3_teach_1 rfl (lv_at hl 1 rfl) ?_
  refine gc_Vi (As := [.int x]) (rest := []) (ci := 4) (q0 := 0) ⟨hx, hb, hml, hown, hts⟩ (c_X3_isKind l D cI cJ cG H.size _ h_ c_ t_ b_ wo_ fd_ nr_ nc_ sc_ K fc le x hK4) (cwV 1 hts gX3_teach_X3_isKind rfl rfl rfl (by decide +kernel) ⟨Nat.le_of_ble_eq_true rfl, Nat.le_of_ble_eq_true rfl⟩) rfl rfl rfl hK hP hD hS hA rfl hl.1 rfl (Nat.le_of_ble_eq_true rfl) dX3_teach_2 ⟨Nat.le_of_ble_eq_true rfl, Nat.le_of_ble_eq_true rfl⟩ (fun r2 u2 H locs h2 hP hD hS => ?_)
  subst h2
  have hP : va_P D vwCl (hwW cI cJ cG R h_ c_ d_ w_ v_ t_ rk_ ro_ rc_ al_ b_ ka_ na_ jo_ me_ wo_ fd_ nr_ nc_ sc_ ar ac K n dn wn vn tk kn M C al kd me px pcs bt wo le F fc nr nc sc) H := hP
  have hD : va_D A (hwW cI cJ cG R h_ c_ d_ w_ v_ t_ rk_ ro_ rc_ al_ b_ ka_ na_ jo_ me_ wo_ fd_ nr_ nc_ sc_ ar ac K n dn wn vn tk kn M C al kd me px pcs bt wo le F fc nr nc sc) := hD
  refine lv_if_ne (tgt := 10) hx hb dX3_teach_5 (by decide) (fun c5 => ?_) (fun c5 => ?_)
  · skip
    have hB5 := bI_n0.mp c5
    obtain ⟨a, ha_, rfl⟩ := inB_of hB5 (by omega)
    refine lv_aload_n hx hb dX3_teach_10 rfl (lv_at hl 0 rfl) ?_
    refine gc_Vv (As := []) (rest := []) (ci := 4) (q0 := 0) ⟨hx, hb, hml, hown, hts⟩ (c_X3_lookAtNow l D cI cJ cG H.size R h_ c_ d_ w_ v_ t_ rk_ ro_ rc_ al_ b_ ka_ na_ jo_ me_ wo_ fd_ nr_ nc_ sc_ ar ac K n dn wn vn tk kn M C al kd me px pcs bt wo le F fc nr nc sc hI) (cwV 0 hts gX3_teach_X3_lookAtNow rfl rfl rfl (by decide +kernel) ⟨Nat.le_of_ble_eq_true rfl, Nat.le_of_ble_eq_true rfl⟩) rfl rfl rfl hK hP hD hS hA rfl hl.1 rfl (Nat.le_of_ble_eq_true rfl) dX3_teach_11 ⟨Nat.le_of_ble_eq_true rfl, Nat.le_of_ble_eq_true rfl⟩ (fun u11 H locs h11 hP hD hS => ?_)
    have hP : va_P D vwCl (hwW cI cJ cG R h_ c_ d_ w_ v_ t_ rk_ ro_ rc_ al_ b_ ka_ na_ jo_ me_ wo_ fd_ nr_ nc_ sc_ ar ac K n dn wn vn tk kn M C al kd me px pcs bt wo le F fc (fu (rwN dn wn vn) nr 8) (fu (ceN (fu (rwN dn wn vn) nr 8)) nc 7) sc) H := hP
    have hD : va_D A (hwW cI cJ cG R h_ c_ d_ w_ v_ t_ rk_ ro_ rc_ al_ b_ ka_ na_ jo_ me_ wo_ fd_ nr_ nc_ sc_ ar ac K n dn wn vn tk kn M C al kd me px pcs bt wo le F fc (fu (rwN dn wn vn) nr 8) (fu (ceN (fu (rwN dn wn vn) nr 8)) nc 7) sc) := hD
    refine lv_aload_n hx hb dX3_teach_14 rfl (lv_at hl 0 rfl) ?_
    refine va_get (D := D) (ci := 4) (v := .ref t_) (C := RX3) (T := TX3) (N := 11) hx hb hts in_X3 hown hK hP 0 rfl rfl 2 (by decide) f_25 (fun _ h9 => h9) rfl dX3_teach_15 ?_
    refine lv_iload_n hx hb dX3_teach_18 rfl (lv_at hl 1 rfl) ?_
    refine lv_aload_n hx hb dX3_teach_19 rfl (lv_at hl 0 rfl) ?_
    refine va_get (D := D) (ci := 4) (v := .ref nr_) (C := RX3) (T := TX3) (N := 11) hx hb hts in_X3 hown hK hP 0 rfl rfl 8 (by decide) f_51 (fun _ h9 => h9) rfl dX3_teach_20 ?_
    have hP := sw_5_6_7_8_9_17_of_20_P hP
    have hD := sw_5_6_7_8_9_17_of_20_D hD
    refine gc_Vi (As := [.int (nI a), .ref nr_]) (rest := []) (ci := 3) (q0 := 0) ⟨hx, hb, hml, hown, hts⟩ (c_X2_add l D cI cJ cG H.size _ t_ rk_ ro_ rc_ al_ ar ac K n kn M C al nr_ (fu (rwN dn wn vn) nr 8) a hn hM (nr_le hnr)) (cwV 2 hts gX3_teach_X2_add rfl rfl rfl (by decide +kernel) ⟨Nat.le_of_ble_eq_true rfl, Nat.le_of_ble_eq_true rfl⟩) rfl rfl rfl hK hP hD hS hA rfl hl.1 rfl (Nat.le_of_ble_eq_true rfl) dX3_teach_23 ⟨Nat.le_of_ble_eq_true rfl, Nat.le_of_ble_eq_true rfl⟩ (fun r23 u23 H locs h23 hP hD hS => ?_)
    have hP := sw_5_6_7_8_9_17_of_20_Pb hP
    have hD := sw_5_6_7_8_9_17_of_20_Db hD
    have hP : va_P D vwCl (hwW cI cJ cG R h_ c_ d_ w_ v_ t_ rk_ ro_ rc_ al_ b_ ka_ na_ jo_ me_ wo_ fd_ nr_ nc_ sc_ ar ac K u23.1 dn wn vn tk u23.2.1 u23.2.2.1 u23.2.2.2 al kd me px pcs bt wo le F fc (fu (rwN dn wn vn) nr 8) (fu (ceN (fu (rwN dn wn vn) nr 8)) nc 7) sc) H := hP
    have hD : va_D A (hwW cI cJ cG R h_ c_ d_ w_ v_ t_ rk_ ro_ rc_ al_ b_ ka_ na_ jo_ me_ wo_ fd_ nr_ nc_ sc_ ar ac K u23.1 dn wn vn tk u23.2.1 u23.2.2.1 u23.2.2.2 al kd me px pcs bt wo le F fc (fu (rwN dn wn vn) nr 8) (fu (ceN (fu (rwN dn wn vn) nr 8)) nc 7) sc) := hD
    subst hQe
    subst hAe
    subst hsz
    exact g_iret hx hb hr hlocks (u23, (fu (rwN dn wn vn) nr 8), (fu (ceN (fu (rwN dn wn vn) nr 8)) nc 7)) ⟨tch_r hB5 h23, tch_u ha_ hK4 hB5 h23, nr_le hnr, nc_lt (nr_le hnr) hnc⟩ hP hK hD hS dX3_teach_26
  · skip
    have hB5 := bI_0.mp c5
    refine lv_iconst (v := -1) hx hb dX3_teach_8 (by decide) ?_
    subst hQe
    subst hAe
    subst hsz
    exact g_iret hx hb hr hlocks ((n, kn, M, C), nr, nc) ⟨by rw [hB5]; rfl, by rw [hB5]; rfl, hnr, hnc⟩ hP hK hD hS dX3_teach_9
abbrev rX3_pixel : Room := { frames := 5, cells := 0, slots := 0, locals := 112 }
set_option maxHeartbeats 4000000 in
set_option maxRecDepth 100000 in
theorem c_X3_pixel (l : Launch) (D : va_G) (cI cJ cG : ClassId) (sz : Nat) (R : va_W) (h_ c_ d_ w_ v_ t_ rk_ ro_ rc_ al_ b_ ka_ na_ jo_ me_ wo_ fd_ nr_ nc_ sc_ : Nat) (ar ac : Nat → Nat) (K : Nat) (n : Nat) (dn : Nat → Nat) (wn : Nat → Nat) (vn : Nat → Nat) (tk : Int64) (kn : Nat → Nat) (M : Nat → Nat → Nat) (C : Nat → Nat → Nat) (al : Nat → Nat) (kd : Nat → Nat) (me : Nat → Nat) (px : Nat) (pcs : Nat) (bt : Bst) (wo : Nat → Int64) (le : Int64) (F : Nat → Nat) (fc : Nat) (nr : Nat → Nat) (nc : Nat → Nat) (sc : Nat → Nat) (x y : Int32) (hI : HI K n dn wn vn kn M C kd px pcs bt F fc nr nc) : Met l yX3_pixel wsX3_pixel rX3_pixel (gP D (tyl cI cJ cG) [.ref h_, .int x, .int y] (hwW cI cJ cG R h_ c_ d_ w_ v_ t_ rk_ ro_ rc_ al_ b_ ka_ na_ jo_ me_ wo_ fd_ nr_ nc_ sc_ ar ac K n dn wn vn tk kn M C al kd me px pcs bt wo le F fc nr nc sc) sz) (gQi D (tyl cI cJ cG) (hwW cI cJ cG R h_ c_ d_ w_ v_ t_ rk_ ro_ rc_ al_ b_ ka_ na_ jo_ me_ wo_ fd_ nr_ nc_ sc_ ar ac K n dn wn vn tk kn M C al kd me px pcs bt wo le F fc nr nc sc) sz (fun r (u : Pst × (Nat → Nat) × (Nat → Nat) × (Nat → Nat) × (Nat → Nat)) => r = bI (free kd px x y) ∧ (u.1 = if free kd px x y = true then telP kd px bt pcs (plc x y) (RDV kn C (fu (ceN (fu (rwN dn wn vn) nr 8)) nc 7) (-1) n wo le K) else (kd, px, bt, pcs)) ∧ (∀ k, u.2.2.2.1 k ≤ 255) ∧ (∀ k, u.2.2.2.2 k < 8)) (fun u => (hwW cI cJ cG R h_ c_ d_ w_ v_ t_ rk_ ro_ rc_ al_ b_ ka_ na_ jo_ me_ wo_ fd_ nr_ nc_ sc_ ar ac K n dn wn vn tk kn M C u.2.1 u.1.1 me u.1.2.1 u.1.2.2.2 u.1.2.2.1 wo le F fc u.2.2.2.1 u.2.2.2.2 u.2.2.1))) 0 0 (va_A (hwW cI cJ cG R h_ c_ d_ w_ v_ t_ rk_ ro_ rc_ al_ b_ ka_ na_ jo_ me_ wo_ fd_ nr_ nc_ sc_ ar ac K n dn wn vn tk kn M C al kd me px pcs bt wo le F fc nr nc sc) sz) := by
  refine gMet (cc := cX3_pixel) (maxL := 3) (ret := (some .boolean)) (ls0 := [(0, .ref h_), (1, .int x), (2, .int y)]) (by decide) rfl (Nat.le_of_ble_eq_true rfl) rfl ?_
  intro p e s m below meth c hx hb hr hts hown hlocks hml hname A hA hAe hsz Q hQe H locs hP hK hD hS ls hl
  have hown : s.vm.findClass RX3 = some m.cls := hown
  have in_X3 : ∀ w ∈ wsX30, w ∈ wsX3_pixel := by decide +kernel
  have f_32 := hts (.fieldLink RX3 32 "SpectrumHeads" "belt" "LSpectrumHeads$Belt;") (by decide +kernel)
  have f_54 := hts (.fieldLink RX3 54 "SpectrumHeads" "nowCells" "[I") (by decide +kernel)
  obtain ⟨⟨hK1, hK4⟩, hn, ⟨hdn, hwn, hvn⟩, ⟨hkn, hM, hC⟩, ⟨hkd, hpx, hpcs, hbt⟩, ⟨hF, hfc⟩, ⟨hnr, hnc⟩⟩ := id hI
  refine lv_aload_n hx hb dX3_pixel_0 rfl (lv_at hl 0 rfl) ?_
  refine va_get (D := D) (ci := 4) (v := .ref b_) (C := RX3) (T := TX3) (N := 11) hx hb hts in_X3 hown hK hP 0 rfl rfl 3 (by decide) f_32 (fun _ h9 => h9) rfl dX3_pixel_1 ?_
  refine lv_iload_n hx hb dX3_pixel_4 rfl (lv_at hl 1 rfl) ?_
  refine lv_iload_n hx hb dX3_pixel_5 rfl (lv_at hl 2 rfl) ?_
  have hP := pm_10_11_12_13_14_0_1_2_3_4_5_6_7_8_9_15_16_17_18_19_P hP
  have hD := pm_10_11_12_13_14_0_1_2_3_4_5_6_7_8_9_15_16_17_18_19_D hD
  refine gc_Vi (As := [.int x, .int y]) (rest := []) (ci := 1) (q0 := 0) ⟨hx, hb, hml, hown, hts⟩ (c_X0_isFree l D cI cJ cG H.size _ b_ ka_ na_ jo_ me_ kd me px pcs bt x y hkd hpx) (cwV 2 hts gX3_pixel_X0_isFree rfl rfl rfl (by decide +kernel) ⟨Nat.le_of_ble_eq_true rfl, Nat.le_of_ble_eq_true rfl⟩) rfl rfl rfl hK hP hD hS hA rfl hl.1 rfl (Nat.le_of_ble_eq_true rfl) dX3_pixel_6 ⟨Nat.le_of_ble_eq_true rfl, Nat.le_of_ble_eq_true rfl⟩ (fun r6 u6 H locs h6 hP hD hS => ?_)
  subst h6
  have hP := pm_5_6_7_8_9_10_11_12_13_14_0_1_2_3_4_15_16_17_18_19_P hP
  have hD := pm_5_6_7_8_9_10_11_12_13_14_0_1_2_3_4_15_16_17_18_19_D hD
  have hP : va_P D vwCl (hwW cI cJ cG R h_ c_ d_ w_ v_ t_ rk_ ro_ rc_ al_ b_ ka_ na_ jo_ me_ wo_ fd_ nr_ nc_ sc_ ar ac K n dn wn vn tk kn M C al kd me px pcs bt wo le F fc nr nc sc) H := hP
  have hD : va_D A (hwW cI cJ cG R h_ c_ d_ w_ v_ t_ rk_ ro_ rc_ al_ b_ ka_ na_ jo_ me_ wo_ fd_ nr_ nc_ sc_ ar ac K n dn wn vn tk kn M C al kd me px pcs bt wo le F fc nr nc sc) := hD
  refine lv_if_ne (tgt := 14) hx hb dX3_pixel_9 (by decide) (fun c9 => ?_) (fun c9 => ?_)
  · skip
    have hB9 : free kd px x y = true := bI_n0.mp c9
    obtain ⟨a, b, ha_, hb_, rfl, rfl⟩ := isPl (free_pl hB9)
    have hvv := RDV_le (kn := kn) (C := C) (fc := (fu (ceN (fu (rwN dn wn vn) nr 8)) nc 7)) (w := -1) (n := n) (wo := wo) (le := le) hK1 hK4
    refine lv_aload_n hx hb dX3_pixel_14 rfl (lv_at hl 0 rfl) ?_
    refine gc_Vv (As := []) (rest := []) (ci := 4) (q0 := 0) ⟨hx, hb, hml, hown, hts⟩ (c_X3_lookAtNow l D cI cJ cG H.size R h_ c_ d_ w_ v_ t_ rk_ ro_ rc_ al_ b_ ka_ na_ jo_ me_ wo_ fd_ nr_ nc_ sc_ ar ac K n dn wn vn tk kn M C al kd me px pcs bt wo le F fc nr nc sc hI) (cwV 0 hts gX3_pixel_X3_lookAtNow rfl rfl rfl (by decide +kernel) ⟨Nat.le_of_ble_eq_true rfl, Nat.le_of_ble_eq_true rfl⟩) rfl rfl rfl hK hP hD hS hA rfl hl.1 rfl (Nat.le_of_ble_eq_true rfl) dX3_pixel_15 ⟨Nat.le_of_ble_eq_true rfl, Nat.le_of_ble_eq_true rfl⟩ (fun u15 H locs h15 hP hD hS => ?_)
    have hP : va_P D vwCl (hwW cI cJ cG R h_ c_ d_ w_ v_ t_ rk_ ro_ rc_ al_ b_ ka_ na_ jo_ me_ wo_ fd_ nr_ nc_ sc_ ar ac K n dn wn vn tk kn M C al kd me px pcs bt wo le F fc (fu (rwN dn wn vn) nr 8) (fu (ceN (fu (rwN dn wn vn) nr 8)) nc 7) sc) H := hP
    have hD : va_D A (hwW cI cJ cG R h_ c_ d_ w_ v_ t_ rk_ ro_ rc_ al_ b_ ka_ na_ jo_ me_ wo_ fd_ nr_ nc_ sc_ ar ac K n dn wn vn tk kn M C al kd me px pcs bt wo le F fc (fu (rwN dn wn vn) nr 8) (fu (ceN (fu (rwN dn wn vn) nr 8)) nc 7) sc) := hD
    refine lv_aload_n hx hb dX3_pixel_18 rfl (lv_at hl 0 rfl) ?_
    refine va_get (D := D) (ci := 4) (v := .ref b_) (C := RX3) (T := TX3) (N := 11) hx hb hts in_X3 hown hK hP 0 rfl rfl 3 (by decide) f_32 (fun _ h9 => h9) rfl dX3_pixel_19 ?_
    refine lv_iload_n hx hb dX3_pixel_22 rfl (lv_at hl 1 rfl) ?_
    refine lv_iload_n hx hb dX3_pixel_23 rfl (lv_at hl 2 rfl) ?_
    refine lv_aload_n hx hb dX3_pixel_24 rfl (lv_at hl 0 rfl) ?_
    refine lv_aload_n hx hb dX3_pixel_25 rfl (lv_at hl 0 rfl) ?_
    refine va_get (D := D) (ci := 4) (v := .ref nc_) (C := RX3) (T := TX3) (N := 11) hx hb hts in_X3 hown hK hP 0 rfl rfl 9 (by decide) f_54 (fun _ h9 => h9) rfl dX3_pixel_26 ?_
    refine lv_iconst (v := -1) hx hb dX3_pixel_29 (by decide) ?_
    refine gc_Vi (As := [.ref nc_, .int (-1)]) (rest := [.int (nI b), .int (nI a), .ref b_]) (ci := 4) (q0 := 0) ⟨hx, hb, hml, hown, hts⟩ (c_X3_readCells l D cI cJ cG H.size R h_ c_ d_ w_ v_ t_ rk_ ro_ rc_ al_ b_ ka_ na_ jo_ me_ wo_ fd_ nr_ nc_ sc_ ar ac K n dn wn vn tk kn M C al kd me px pcs bt wo le F fc (fu (rwN dn wn vn) nr 8) (fu (ceN (fu (rwN dn wn vn) nr 8)) nc 7) sc nc_ (80 + R.length + 13) (fu (ceN (fu (rwN dn wn vn) nr 8)) nc 7) (-1) (fun _ => tl_get 13 rfl) (nc_lt (nr_le hnr) hnc) (HI_now hI (nr_le hnr) (nc_lt (nr_le hnr) hnc))) (cwV 2 hts gX3_pixel_X3_readCells rfl rfl rfl (by decide +kernel) ⟨Nat.le_of_ble_eq_true rfl, Nat.le_of_ble_eq_true rfl⟩) rfl rfl rfl hK hP hD hS hA rfl hl.1 rfl (Nat.le_of_ble_eq_true rfl) dX3_pixel_30 ⟨Nat.le_of_ble_eq_true rfl, Nat.le_of_ble_eq_true rfl⟩ (fun r30 u30 H locs h30 hP hD hS => ?_)
    rw [RD_eq] at h30
    subst h30
    have hP : va_P D vwCl (hwW cI cJ cG R h_ c_ d_ w_ v_ t_ rk_ ro_ rc_ al_ b_ ka_ na_ jo_ me_ wo_ fd_ nr_ nc_ sc_ ar ac K n dn wn vn tk kn M C u30.1 kd me px pcs bt wo le F fc (fu (rwN dn wn vn) nr 8) (fu (ceN (fu (rwN dn wn vn) nr 8)) nc 7) u30.2) H := hP
    have hD : va_D A (hwW cI cJ cG R h_ c_ d_ w_ v_ t_ rk_ ro_ rc_ al_ b_ ka_ na_ jo_ me_ wo_ fd_ nr_ nc_ sc_ ar ac K n dn wn vn tk kn M C u30.1 kd me px pcs bt wo le F fc (fu (rwN dn wn vn) nr 8) (fu (ceN (fu (rwN dn wn vn) nr 8)) nc 7) u30.2) := hD
    have hP := pm_10_11_12_13_14_0_1_2_3_4_5_6_7_8_9_15_16_17_18_19_P hP
    have hD := pm_10_11_12_13_14_0_1_2_3_4_5_6_7_8_9_15_16_17_18_19_D hD
    refine gc_Vv (As := [.int (nI a), .int (nI b), .int (nI (RDV kn C (fu (ceN (fu (rwN dn wn vn) nr 8)) nc 7) (-1) n wo le K) - 2)]) (rest := []) (ci := 1) (q0 := 0) ⟨hx, hb, hml, hown, hts⟩ (c_X0_tell l D cI cJ cG H.size _ b_ ka_ na_ jo_ me_ kd me px pcs bt a b (RDV kn C (fu (ceN (fu (rwN dn wn vn) nr 8)) nc 7) (-1) n wo le K) ha_ hb_ (by omega) hkd hbt) (cwV 3 hts gX3_pixel_X0_tell rfl rfl rfl (by decide +kernel) ⟨Nat.le_of_ble_eq_true rfl, Nat.le_of_ble_eq_true rfl⟩) rfl rfl rfl hK hP hD hS hA rfl hl.1 rfl (Nat.le_of_ble_eq_true rfl) dX3_pixel_33 ⟨Nat.le_of_ble_eq_true rfl, Nat.le_of_ble_eq_true rfl⟩ (fun u33 H locs h33 hP hD hS => ?_)
    have hP := pm_5_6_7_8_9_10_11_12_13_14_0_1_2_3_4_15_16_17_18_19_P hP
    have hD := pm_5_6_7_8_9_10_11_12_13_14_0_1_2_3_4_15_16_17_18_19_D hD
    have hP : va_P D vwCl (hwW cI cJ cG R h_ c_ d_ w_ v_ t_ rk_ ro_ rc_ al_ b_ ka_ na_ jo_ me_ wo_ fd_ nr_ nc_ sc_ ar ac K n dn wn vn tk kn M C u30.1 (un kd (16 * b + a) (RDV kn C (fu (ceN (fu (rwN dn wn vn) nr 8)) nc 7) (-1) n wo le K)) me (px + 1) u33.2 u33.1 wo le F fc (fu (rwN dn wn vn) nr 8) (fu (ceN (fu (rwN dn wn vn) nr 8)) nc 7) u30.2) H := hP
    have hD : va_D A (hwW cI cJ cG R h_ c_ d_ w_ v_ t_ rk_ ro_ rc_ al_ b_ ka_ na_ jo_ me_ wo_ fd_ nr_ nc_ sc_ ar ac K n dn wn vn tk kn M C u30.1 (un kd (16 * b + a) (RDV kn C (fu (ceN (fu (rwN dn wn vn) nr 8)) nc 7) (-1) n wo le K)) me (px + 1) u33.2 u33.1 wo le F fc (fu (rwN dn wn vn) nr 8) (fu (ceN (fu (rwN dn wn vn) nr 8)) nc 7) u30.2) := hD
    refine lv_iconst (v := 1) hx hb dX3_pixel_36 (by decide) ?_
    subst hQe
    subst hAe
    subst hsz
    exact g_zret hx hb hr hlocks rfl ((un kd (16 * b + a) (RDV kn C (fu (ceN (fu (rwN dn wn vn) nr 8)) nc 7) (-1) n wo le K), px + 1, u33.1, u33.2), u30.1, u30.2, (fu (rwN dn wn vn) nr 8), (fu (ceN (fu (rwN dn wn vn) nr 8)) nc 7)) ⟨by rw [hB9]; rfl, by rw [hB9, plc_nI ha_ hb_, h33]; rfl, nr_le hnr, nc_lt (nr_le hnr) hnc⟩ hP hK hD hS dX3_pixel_37
  · skip
    have hB9 : free kd px x y = false := bI_0.mp c9
    refine lv_iconst (v := 0) hx hb dX3_pixel_12 (by decide) ?_
    subst hQe
    subst hAe
    subst hsz
    exact g_zret hx hb hr hlocks rfl ((kd, px, bt, pcs), al, sc, nr, nc) ⟨by rw [hB9]; rfl, by rw [hB9]; rfl, hnr, hnc⟩ hP hK hD hS dX3_pixel_13
abbrev rX3_pieceKind : Room := { frames := 1, cells := 0, slots := 0, locals := 24 }
set_option maxHeartbeats 4000000 in
set_option maxRecDepth 100000 in
theorem c_X3_pieceKind (l : Launch) (D : va_G) (cI cJ cG : ClassId) (sz : Nat) (R : va_W) (h_ c_ d_ w_ v_ t_ rk_ ro_ rc_ al_ b_ ka_ na_ jo_ me_ wo_ fd_ nr_ nc_ sc_ : Nat) (ar ac : Nat → Nat) (K : Nat) (n : Nat) (dn : Nat → Nat) (wn : Nat → Nat) (vn : Nat → Nat) (tk : Int64) (kn : Nat → Nat) (M : Nat → Nat → Nat) (C : Nat → Nat → Nat) (al : Nat → Nat) (kd : Nat → Nat) (me : Nat → Nat) (px : Nat) (pcs : Nat) (bt : Bst) (wo : Nat → Int64) (le : Int64) (F : Nat → Nat) (fc : Nat) (nr : Nat → Nat) (nc : Nat → Nat) (sc : Nat → Nat) (x : Int32) (hI : HI K n dn wn vn kn M C kd px pcs bt F fc nr nc) : Met l yX3_pieceKind wsX3_pieceKind rX3_pieceKind (gP D (tyl cI cJ cG) [.ref h_, .int x] (hwW cI cJ cG R h_ c_ d_ w_ v_ t_ rk_ ro_ rc_ al_ b_ ka_ na_ jo_ me_ wo_ fd_ nr_ nc_ sc_ ar ac K n dn wn vn tk kn M C al kd me px pcs bt wo le F fc nr nc sc) sz) (gQi D (tyl cI cJ cG) (hwW cI cJ cG R h_ c_ d_ w_ v_ t_ rk_ ro_ rc_ al_ b_ ka_ na_ jo_ me_ wo_ fd_ nr_ nc_ sc_ ar ac K n dn wn vn tk kn M C al kd me px pcs bt wo le F fc nr nc sc) sz (fun r (u : Nat → Nat) => r = if inB x pcs = true then nI (grN (fun k => cnt (inP bt.1 kd x.toNatClampNeg k) 256) wo K) else -1) (fun u => (hwW cI cJ cG R h_ c_ d_ w_ v_ t_ rk_ ro_ rc_ al_ b_ ka_ na_ jo_ me_ wo_ fd_ nr_ nc_ sc_ ar ac K n dn wn vn tk kn M C al kd me px pcs bt wo le F fc nr nc u))) 0 0 (va_A (hwW cI cJ cG R h_ c_ d_ w_ v_ t_ rk_ ro_ rc_ al_ b_ ka_ na_ jo_ me_ wo_ fd_ nr_ nc_ sc_ ar ac K n dn wn vn tk kn M C al kd me px pcs bt wo le F fc nr nc sc) sz) := by
  refine gMet (cc := cX3_pieceKind) (maxL := 3) (ret := (some .int)) (ls0 := [(0, .ref h_), (1, .int x)]) (by decide) rfl (Nat.le_of_ble_eq_true rfl) rfl ?_
  intro p e s m below meth c hx hb hr hts hown hlocks hml hname A hA hAe hsz Q hQe H locs hP hK hD hS ls hl
  have hown : s.vm.findClass RX3 = some m.cls := hown
  have in_X3 : ∀ w ∈ wsX30, w ∈ wsX3_pieceKind := by decide +kernel
  have f_32 := hts (.fieldLink RX3 32 "SpectrumHeads" "belt" "LSpectrumHeads$Belt;") (by decide +kernel)
  have f_9 := hts (.fieldLink RX3 9 "SpectrumHeads" "kinds" "I") (by decide +kernel)
  have f_57 := hts (.fieldLink RX3 57 "SpectrumHeads" "scores" "[J") (by decide +kernel)
  obtain ⟨⟨hK1, hK4⟩, hn, ⟨hdn, hwn, hvn⟩, ⟨hkn, hM, hC⟩, ⟨hkd, hpx, hpcs, hbt⟩, ⟨hF, hfc⟩, ⟨hnr, hnc⟩⟩ := id hI
  refine lv_aload_n hx hb dX3_pieceKind_0 rfl (lv_at hl 0 rfl) ?_
  refine va_get (D := D) (ci := 4) (v := .ref b_) (C := RX3) (T := TX3) (N := 11) hx hb hts in_X3 hown hK hP 0 rfl rfl 3 (by decide) f_32 (fun _ h9 => h9) rfl dX3_pieceKind_1 ?_
  refine lv_iload_n hx hb dX3_pieceKind_4 rfl (lv_at hl 1 rfl) ?_
  have hP := pm_10_11_12_13_14_0_1_2_3_4_5_6_7_8_9_15_16_17_18_19_P hP
  have hD := pm_10_11_12_13_14_0_1_2_3_4_5_6_7_8_9_15_16_17_18_19_D hD
  refine gc_Vi (As := [.int x]) (rest := []) (ci := 1) (q0 := 0) ⟨hx, hb, hml, hown, hts⟩ (c_X0_hasPiece l D cI cJ cG H.size _ b_ ka_ na_ jo_ me_ kd me px pcs bt x hpcs) (cwV 1 hts gX3_pieceKind_X0_hasPiece rfl rfl rfl (by decide +kernel) ⟨Nat.le_of_ble_eq_true rfl, Nat.le_of_ble_eq_true rfl⟩) rfl rfl rfl hK hP hD hS hA rfl hl.1 rfl (Nat.le_of_ble_eq_true rfl) dX3_pieceKind_5 ⟨Nat.le_of_ble_eq_true rfl, Nat.le_of_ble_eq_true rfl⟩ (fun r5 u5 H locs h5 hP hD hS => ?_)
  subst h5
  have hP := pm_5_6_7_8_9_10_11_12_13_14_0_1_2_3_4_15_16_17_18_19_P hP
  have hD := pm_5_6_7_8_9_10_11_12_13_14_0_1_2_3_4_15_16_17_18_19_D hD
  have hP : va_P D vwCl (hwW cI cJ cG R h_ c_ d_ w_ v_ t_ rk_ ro_ rc_ al_ b_ ka_ na_ jo_ me_ wo_ fd_ nr_ nc_ sc_ ar ac K n dn wn vn tk kn M C al kd me px pcs bt wo le F fc nr nc sc) H := hP
  have hD : va_D A (hwW cI cJ cG R h_ c_ d_ w_ v_ t_ rk_ ro_ rc_ al_ b_ ka_ na_ jo_ me_ wo_ fd_ nr_ nc_ sc_ ar ac K n dn wn vn tk kn M C al kd me px pcs bt wo le F fc nr nc sc) := hD
  refine lv_if_ne (tgt := 13) hx hb dX3_pieceKind_8 (by decide) (fun c8 => ?_) (fun c8 => ?_)
  · skip
    have hB8 := bI_n0.mp c8
    obtain ⟨a, ha_, rfl⟩ := inB_of hB8 (by omega)
    refine lv_iconst (v := 0) hx hb dX3_pieceKind_13 (by decide) ?_
    refine lv_istore_n (lv' := [(2, .int 0), (0, .ref h_), (1, .int (nI a))]) hx hb dX3_pieceKind_14 rfl hl (by decide) rfl (fun ls hl => ?_)
    have L_15 : ∀ (n_15 : Nat) (k : Nat) (sc1 : Nat → Nat) (hk : k ≤ K) (hs : ∀ j, j < k → sc1 j = cnt (inP bt.1 kd a j) 256), K - k < n_15 → ∀ (H : Heap) (locs : List Loc) (ls : Array Slot), va_P D vwCl (hwW cI cJ cG R h_ c_ d_ w_ v_ t_ rk_ ro_ rc_ al_ b_ ka_ na_ jo_ me_ wo_ fd_ nr_ nc_ sc_ ar ac K n dn wn vn tk kn M C al kd me px pcs bt wo le F fc nr nc sc1) H → va_D A (hwW cI cJ cG R h_ c_ d_ w_ v_ t_ rk_ ro_ rc_ al_ b_ ka_ na_ jo_ me_ wo_ fd_ nr_ nc_ sc_ ar ac K n dn wn vn tk kn M C al kd me px pcs bt wo le F fc nr nc sc1) → va_S A s.heap H locs → lv_has ls 3 [(2, .int (nI k)), (0, .ref h_), (1, .int (nI a))] → W p l e (headSpec wsX3_pieceKind rX3_pieceKind).room s m ([.ref h_, .int (nI a)] : List Value).toArray below meth c H locs 0 0 Q (F0 m 15 ls []) := by
      intro n_15
      induction n_15 with
      | zero => intro k sc1 hk hs hn_; exact absurd hn_ (Nat.not_lt_zero _)
      | succ n_15 ih_15 =>
        intro k sc1 hk hs hn_15 H locs ls hP hD hS hl
        refine lv_iload_n hx hb dX3_pieceKind_15 rfl (lv_at hl 0 rfl) ?_
        refine lv_aload_n hx hb dX3_pieceKind_16 rfl (lv_at hl 1 rfl) ?_
        refine va_get (D := D) (ci := 4) (v := .int (nI K)) (C := RX3) (T := TX3) (N := 11) hx hb hts in_X3 hown hK hP 0 rfl rfl 0 (by decide) f_9 (fun _ h9 => h9) rfl dX3_pieceKind_17 ?_
        refine lv_icmp_ge (tgt := 45) hx hb dX3_pieceKind_20 (by decide) (fun c20 => ?_) (fun c20 => ?_)
        · skip
          have hE20 := lp_e (n := K) c20 hk
          subst hE20
          refine lv_aload_n hx hb dX3_pieceKind_45 rfl (lv_at hl 1 rfl) ?_
          have hP := pm_0_15_19_1_2_3_4_5_6_7_8_9_10_11_12_13_14_16_17_18_P hP
          have hD := pm_0_15_19_1_2_3_4_5_6_7_8_9_10_11_12_13_14_16_17_18_D hD
          refine gc_Vi (As := []) (rest := []) (ci := 4) (q0 := 0) ⟨hx, hb, hml, hown, hts⟩ (c_X3_greatest l D cI cJ cG H.size _ h_ c_ t_ b_ wo_ fd_ nr_ nc_ sc_ K fc le wo sc1 hK1 hK4 (fun j hj => by rw [hs j hj]; have := cnt_le (inP bt.1 kd a j) 256; omega)) (cwV 0 hts gX3_pieceKind_X3_greatest rfl rfl rfl (by decide +kernel) ⟨Nat.le_of_ble_eq_true rfl, Nat.le_of_ble_eq_true rfl⟩) rfl rfl rfl hK hP hD hS hA rfl hl.1 rfl (Nat.le_of_ble_eq_true rfl) dX3_pieceKind_46 ⟨Nat.le_of_ble_eq_true rfl, Nat.le_of_ble_eq_true rfl⟩ (fun r46 u46 H locs h46 hP hD hS => ?_)
          subst h46
          have hP := pm_0_3_4_5_6_7_8_9_10_11_12_13_14_15_16_1_17_18_19_2_P hP
          have hD := pm_0_3_4_5_6_7_8_9_10_11_12_13_14_15_16_1_17_18_19_2_D hD
          have hP : va_P D vwCl (hwW cI cJ cG R h_ c_ d_ w_ v_ t_ rk_ ro_ rc_ al_ b_ ka_ na_ jo_ me_ wo_ fd_ nr_ nc_ sc_ ar ac K n dn wn vn tk kn M C al kd me px pcs bt wo le F fc nr nc sc1) H := hP
          have hD : va_D A (hwW cI cJ cG R h_ c_ d_ w_ v_ t_ rk_ ro_ rc_ al_ b_ ka_ na_ jo_ me_ wo_ fd_ nr_ nc_ sc_ ar ac K n dn wn vn tk kn M C al kd me px pcs bt wo le F fc nr nc sc1) := hD
          subst hQe
          subst hAe
          subst hsz
          exact g_iret hx hb hr hlocks sc1 (by rw [hB8, nI_clamp (by omega)]; exact congrArg nI (grN_congr K hs)) hP hK hD hS dX3_pieceKind_49
        · skip
          have hk8 := lp_l (n := K) c20 hk
          have hcl := cnt_le (inP bt.1 kd a k) 256
          refine lv_aload_n hx hb dX3_pieceKind_23 rfl (lv_at hl 1 rfl) ?_
          refine va_get (D := D) (ci := 4) (v := .ref sc_) (C := RX3) (T := TX3) (N := 11) hx hb hts in_X3 hown hK hP 0 rfl rfl 10 (by decide) f_57 (fun _ h9 => h9) rfl dX3_pieceKind_24 ?_
          refine lv_iload_n hx hb dX3_pieceKind_27 rfl (lv_at hl 0 rfl) ?_
          refine lv_aload_n hx hb dX3_pieceKind_28 rfl (lv_at hl 1 rfl) ?_
          refine va_get (D := D) (ci := 4) (v := .ref b_) (C := RX3) (T := TX3) (N := 11) hx hb hts in_X3 hown hK hP 0 rfl rfl 3 (by decide) f_32 (fun _ h9 => h9) rfl dX3_pieceKind_29 ?_
          refine lv_iload_n hx hb dX3_pieceKind_32 rfl (lv_at hl 2 rfl) ?_
          refine lv_iload_n hx hb dX3_pieceKind_33 rfl (lv_at hl 0 rfl) ?_
          have hP := pm_10_11_12_13_14_0_1_2_3_4_5_6_7_8_9_15_16_17_18_19_P hP
          have hD := pm_10_11_12_13_14_0_1_2_3_4_5_6_7_8_9_15_16_17_18_19_D hD
          refine gc_Vi (As := [.int (nI a), .int (nI k)]) (rest := [.int (nI k), .ref sc_]) (ci := 1) (q0 := 0) ⟨hx, hb, hml, hown, hts⟩ (c_X0_countIn l D cI cJ cG H.size _ b_ ka_ na_ jo_ me_ kd me px pcs bt a k (by omega) (by omega) hkd hbt) (cwV 2 hts gX3_pieceKind_X0_countIn rfl rfl rfl (by decide +kernel) ⟨Nat.le_of_ble_eq_true rfl, Nat.le_of_ble_eq_true rfl⟩) rfl rfl rfl hK hP hD hS hA rfl hl.1 rfl (Nat.le_of_ble_eq_true rfl) dX3_pieceKind_34 ⟨Nat.le_of_ble_eq_true rfl, Nat.le_of_ble_eq_true rfl⟩ (fun r34 u34 H locs h34 hP hD hS => ?_)
          subst h34
          have hP := pm_5_6_7_8_9_10_11_12_13_14_0_1_2_3_4_15_16_17_18_19_P hP
          have hD := pm_5_6_7_8_9_10_11_12_13_14_0_1_2_3_4_15_16_17_18_19_D hD
          have hP : va_P D vwCl (hwW cI cJ cG R h_ c_ d_ w_ v_ t_ rk_ ro_ rc_ al_ b_ ka_ na_ jo_ me_ wo_ fd_ nr_ nc_ sc_ ar ac K n dn wn vn tk kn M C al kd me px pcs bt wo le F fc nr nc sc1) H := hP
          have hD : va_D A (hwW cI cJ cG R h_ c_ d_ w_ v_ t_ rk_ ro_ rc_ al_ b_ ka_ na_ jo_ me_ wo_ fd_ nr_ nc_ sc_ ar ac K n dn wn vn tk kn M C al kd me px pcs bt wo le F fc nr nc sc1) := hD
          refine lv_i2l hx hb dX3_pieceKind_37 rfl ?_
          refine lv_topl (fun x37 ex37 => ?_)
          obtain rfl : x37 = lN (cnt (inP bt.1 kd a k) 256) := by rw [ex37]; exact nI_l (by omega)
          refine va_last hx hb hK hP hD hS 19 1 rfl rfl (by first | exact vp_in_nI (by omega) (by omega) | assumption) dX3_pieceKind_38 (fun H locs hP hD hS => ?_)
          rw [nI_clamp (by omega)] at hP hD
          have hP : va_P D vwCl ((h_, .inr (4, [.int (nI K), .ref c_, .ref t_, .ref b_, .ref wo_, .long le, .ref fd_, .int (nI fc), .ref nr_, .ref nc_, .ref sc_])) :: (c_, .inr (2, [.ref d_, .ref w_, .ref v_, .long tk])) :: (d_, .inl (cI, 8, .inl (nf dn))) :: (w_, .inl (cI, 8, .inl (nf wn))) :: (v_, .inl (cI, 8, .inl (nf vn))) :: (t_, .inr (3, [.int (nI K), .ref rk_, .ref ro_, .ref rc_, .ref al_, .int (nI n)])) :: (rk_, .inl (cI, 40, .inl (nf kn))) :: (ro_, .inl (cG, 40, .inr (.inr (.inr (.inr (og ar)))))) :: (rc_, .inl (cG, 40, .inr (.inr (.inr (.inr (og ac)))))) :: (al_, .inl (cI, 7, .inl (nf al))) :: (b_, .inr (1, [.ref ka_, .ref na_, .ref jo_, .ref me_, .int (nI bt.2.2), .int (nI px), .int (nI pcs)])) :: (ka_, .inl (cI, 256, .inl (k2 kd))) :: (na_, .inl (cI, 256, .inl (l1 bt.1))) :: (jo_, .inl (cI, 100, .inl (nf bt.2.1))) :: (me_, .inl (cI, 100, .inl (nf me))) :: (wo_, .inl (cJ, K, .inr (.inl wo))) :: (fd_, .inl (cI, 400, .inl (nf F))) :: (nr_, .inl (cI, 8, .inl (nf nr))) :: (nc_, .inl (cI, 7, .inl (nf nc))) :: (sc_, .inl (cJ, K, .inr (.inl (vp_updL (lf sc1) k (lN (cnt (inP bt.1 kd a k) 256)))))) :: (pr cI ar M ++ (pq cI ac C ++ R))) H := hP
          have hD : va_D A ((h_, .inr (4, [.int (nI K), .ref c_, .ref t_, .ref b_, .ref wo_, .long le, .ref fd_, .int (nI fc), .ref nr_, .ref nc_, .ref sc_])) :: (c_, .inr (2, [.ref d_, .ref w_, .ref v_, .long tk])) :: (d_, .inl (cI, 8, .inl (nf dn))) :: (w_, .inl (cI, 8, .inl (nf wn))) :: (v_, .inl (cI, 8, .inl (nf vn))) :: (t_, .inr (3, [.int (nI K), .ref rk_, .ref ro_, .ref rc_, .ref al_, .int (nI n)])) :: (rk_, .inl (cI, 40, .inl (nf kn))) :: (ro_, .inl (cG, 40, .inr (.inr (.inr (.inr (og ar)))))) :: (rc_, .inl (cG, 40, .inr (.inr (.inr (.inr (og ac)))))) :: (al_, .inl (cI, 7, .inl (nf al))) :: (b_, .inr (1, [.ref ka_, .ref na_, .ref jo_, .ref me_, .int (nI bt.2.2), .int (nI px), .int (nI pcs)])) :: (ka_, .inl (cI, 256, .inl (k2 kd))) :: (na_, .inl (cI, 256, .inl (l1 bt.1))) :: (jo_, .inl (cI, 100, .inl (nf bt.2.1))) :: (me_, .inl (cI, 100, .inl (nf me))) :: (wo_, .inl (cJ, K, .inr (.inl wo))) :: (fd_, .inl (cI, 400, .inl (nf F))) :: (nr_, .inl (cI, 8, .inl (nf nr))) :: (nc_, .inl (cI, 7, .inl (nf nc))) :: (sc_, .inl (cJ, K, .inr (.inl (vp_updL (lf sc1) k (lN (cnt (inP bt.1 kd a k) 256)))))) :: (pr cI ar M ++ (pq cI ac C ++ R))) := hD
          have hW_ : vp_updL (lf sc1) k (lN (cnt (inP bt.1 kd a k) 256)) = lf (un sc1 k (cnt (inP bt.1 kd a k) 256)) := by exact lf_upd _ _ _
          rw [hW_] at hP hD
          have hP : va_P D vwCl (hwW cI cJ cG R h_ c_ d_ w_ v_ t_ rk_ ro_ rc_ al_ b_ ka_ na_ jo_ me_ wo_ fd_ nr_ nc_ sc_ ar ac K n dn wn vn tk kn M C al kd me px pcs bt wo le F fc nr nc (un sc1 k (cnt (inP bt.1 kd a k) 256))) H := hP
          have hD : va_D A (hwW cI cJ cG R h_ c_ d_ w_ v_ t_ rk_ ro_ rc_ al_ b_ ka_ na_ jo_ me_ wo_ fd_ nr_ nc_ sc_ ar ac K n dn wn vn tk kn M C al kd me px pcs bt wo le F fc nr nc (un sc1 k (cnt (inP bt.1 kd a k) 256))) := hD
          obtain ⟨x39, ex39⟩ : ∃ y : Int32, y = (nI k) + 1 := ⟨_, rfl⟩
          refine lv_iinc (v := x39) (lv' := [(2, .int x39), (0, .ref h_), (1, .int (nI a))]) hx hb dX3_pieceKind_39 hl (k := 0) rfl (by rw [ex39]; rfl) (by decide) rfl (fun ls hl => ?_)
          obtain rfl : x39 = nI (k + 1) := by rw [ex39]; exact nI_1 _
          refine lv_goto (tgt := 15) hx hb dX3_pieceKind_42 (by decide) ?_
          exact ih_15 (k + 1) (un sc1 k (cnt (inP bt.1 kd a k) 256)) (by omega) (fun j hj => (Nat.lt_or_ge j k).elim (fun h => by rw [un_n (by omega)]; exact hs j h) (fun h => by rw [show j = k by omega]; exact un_s)) (by omega) H locs ls hP hD hS (lv_sub hl [0, 1, 2] rfl)
    exact L_15 _ 0 sc (Nat.zero_le _) (fun j h => absurd h (Nat.not_lt_zero _)) (Nat.lt_succ_self _) H locs ls hP hD hS (lv_sub hl [0, 1, 2] rfl)
  · skip
    have hB8 := bI_0.mp c8
    refine lv_iconst (v := -1) hx hb dX3_pieceKind_11 (by decide) ?_
    subst hQe
    subst hAe
    subst hsz
    exact g_iret hx hb hr hlocks sc (by rw [hB8]; rfl) hP hK hD hS dX3_pieceKind_12
theorem sw_5_6_7_8_9_16_of_20_P {D : va_G} {cl : List vw_C} {H : Heap} {x0 x1 x2 x3 x4 x5 x6 x7 x8 x9 x10 x11 x12 x13 x14 x15 x16 x17 x18 x19 : Nat × va_E} {p q R : va_W} (h : va_P D cl (x0 :: x1 :: x2 :: x3 :: x4 :: x5 :: x6 :: x7 :: x8 :: x9 :: x10 :: x11 :: x12 :: x13 :: x14 :: x15 :: x16 :: x17 :: x18 :: x19 :: (p ++ (q ++ R))) H) : va_P D cl (x5 :: x6 :: x7 :: x8 :: x9 :: x16 :: (p ++ (q ++ (R ++ [x0, x1, x2, x3, x4, x10, x11, x12, x13, x14, x15, x17, x18, x19])))) H := sw_P (Xt := [x5, x6, x7, x8, x9, x16]) (Xo := [x0, x1, x2, x3, x4, x10, x11, x12, x13, x14, x15, x17, x18, x19]) (va_P.part (X := [x0, x1, x2, x3, x4, x5, x6, x7, x8, x9, x10, x11, x12, x13, x14, x15, x16, x17, x18, x19]) (pl := p ++ (q ++ R)) (cx := [x5, x6, x7, x8, x9, x16, x0, x1, x2, x3, x4, x10, x11, x12, x13, x14, x15, x17, x18, x19]) h [5, 6, 7, 8, 9, 16, 0, 1, 2, 3, 4, 10, 11, 12, 13, 14, 15, 17, 18, 19] rfl)
theorem sw_5_6_7_8_9_16_of_20_D {A : Nat → Prop} {x0 x1 x2 x3 x4 x5 x6 x7 x8 x9 x10 x11 x12 x13 x14 x15 x16 x17 x18 x19 : Nat × va_E} {p q R : va_W} (h : va_D A (x0 :: x1 :: x2 :: x3 :: x4 :: x5 :: x6 :: x7 :: x8 :: x9 :: x10 :: x11 :: x12 :: x13 :: x14 :: x15 :: x16 :: x17 :: x18 :: x19 :: (p ++ (q ++ R)))) : va_D A (x5 :: x6 :: x7 :: x8 :: x9 :: x16 :: (p ++ (q ++ (R ++ [x0, x1, x2, x3, x4, x10, x11, x12, x13, x14, x15, x17, x18, x19])))) := sw_D (Xt := [x5, x6, x7, x8, x9, x16]) (Xo := [x0, x1, x2, x3, x4, x10, x11, x12, x13, x14, x15, x17, x18, x19]) (va_D.part (X := [x0, x1, x2, x3, x4, x5, x6, x7, x8, x9, x10, x11, x12, x13, x14, x15, x16, x17, x18, x19]) (pl := p ++ (q ++ R)) (cx := [x5, x6, x7, x8, x9, x16, x0, x1, x2, x3, x4, x10, x11, x12, x13, x14, x15, x17, x18, x19]) h [5, 6, 7, 8, 9, 16, 0, 1, 2, 3, 4, 10, 11, 12, 13, 14, 15, 17, 18, 19] (by decide) rfl)
theorem sw_5_6_7_8_9_16_of_20_Pb {D : va_G} {cl : List vw_C} {H : Heap} {x0 x1 x2 x3 x4 x5 x6 x7 x8 x9 x10 x11 x12 x13 x14 x15 x16 x17 x18 x19 : Nat × va_E} {p q R : va_W} (h : va_P D cl (x5 :: x6 :: x7 :: x8 :: x9 :: x16 :: (p ++ (q ++ (R ++ [x0, x1, x2, x3, x4, x10, x11, x12, x13, x14, x15, x17, x18, x19])))) H) : va_P D cl (x0 :: x1 :: x2 :: x3 :: x4 :: x5 :: x6 :: x7 :: x8 :: x9 :: x10 :: x11 :: x12 :: x13 :: x14 :: x15 :: x16 :: x17 :: x18 :: x19 :: (p ++ (q ++ R))) H := va_P.part (X := [x5, x6, x7, x8, x9, x16, x0, x1, x2, x3, x4, x10, x11, x12, x13, x14, x15, x17, x18, x19]) (pl := p ++ (q ++ R)) (cx := [x0, x1, x2, x3, x4, x5, x6, x7, x8, x9, x10, x11, x12, x13, x14, x15, x16, x17, x18, x19]) (ws_P (Xt := [x5, x6, x7, x8, x9, x16]) (Xo := [x0, x1, x2, x3, x4, x10, x11, x12, x13, x14, x15, x17, x18, x19]) h) [6, 7, 8, 9, 10, 0, 1, 2, 3, 4, 11, 12, 13, 14, 15, 16, 5, 17, 18, 19] rfl
theorem sw_5_6_7_8_9_16_of_20_Db {A : Nat → Prop} {x0 x1 x2 x3 x4 x5 x6 x7 x8 x9 x10 x11 x12 x13 x14 x15 x16 x17 x18 x19 : Nat × va_E} {p q R : va_W} (h : va_D A (x5 :: x6 :: x7 :: x8 :: x9 :: x16 :: (p ++ (q ++ (R ++ [x0, x1, x2, x3, x4, x10, x11, x12, x13, x14, x15, x17, x18, x19]))))) : va_D A (x0 :: x1 :: x2 :: x3 :: x4 :: x5 :: x6 :: x7 :: x8 :: x9 :: x10 :: x11 :: x12 :: x13 :: x14 :: x15 :: x16 :: x17 :: x18 :: x19 :: (p ++ (q ++ R))) := va_D.part (X := [x5, x6, x7, x8, x9, x16, x0, x1, x2, x3, x4, x10, x11, x12, x13, x14, x15, x17, x18, x19]) (pl := p ++ (q ++ R)) (cx := [x0, x1, x2, x3, x4, x5, x6, x7, x8, x9, x10, x11, x12, x13, x14, x15, x16, x17, x18, x19]) (ws_D (Xt := [x5, x6, x7, x8, x9, x16]) (Xo := [x0, x1, x2, x3, x4, x10, x11, x12, x13, x14, x15, x17, x18, x19]) h) [6, 7, 8, 9, 10, 0, 1, 2, 3, 4, 11, 12, 13, 14, 15, 16, 5, 17, 18, 19] (by decide) rfl
abbrev rX3_open : Room := { frames := 3, cells := 0, slots := 0, locals := 107 }
set_option maxHeartbeats 4000000 in
set_option maxRecDepth 100000 in
theorem c_X3_open (l : Launch) (D : va_G) (cI cJ cG : ClassId) (sz : Nat) (R : va_W) (h_ c_ d_ w_ v_ t_ rk_ ro_ rc_ al_ b_ ka_ na_ jo_ me_ wo_ fd_ nr_ nc_ sc_ : Nat) (ar ac : Nat → Nat) (K : Nat) (n : Nat) (dn : Nat → Nat) (wn : Nat → Nat) (vn : Nat → Nat) (tk : Int64) (kn : Nat → Nat) (M : Nat → Nat → Nat) (C : Nat → Nat → Nat) (al : Nat → Nat) (kd : Nat → Nat) (me : Nat → Nat) (px : Nat) (pcs : Nat) (bt : Bst) (wo : Nat → Int64) (le : Int64) (F : Nat → Nat) (fc : Nat) (nr : Nat → Nat) (nc : Nat → Nat) (sc : Nat → Nat) (hI : HI K n dn wn vn kn M C kd px pcs bt F fc nr nc) : Met l yX3_open wsX3_open rX3_open (gP D (tyl cI cJ cG) [.ref h_] (hwW cI cJ cG R h_ c_ d_ w_ v_ t_ rk_ ro_ rc_ al_ b_ ka_ na_ jo_ me_ wo_ fd_ nr_ nc_ sc_ ar ac K n dn wn vn tk kn M C al kd me px pcs bt wo le F fc nr nc sc) sz) (gQi D (tyl cI cJ cG) (hwW cI cJ cG R h_ c_ d_ w_ v_ t_ rk_ ro_ rc_ al_ b_ ka_ na_ jo_ me_ wo_ fd_ nr_ nc_ sc_ ar ac K n dn wn vn tk kn M C al kd me px pcs bt wo le F fc nr nc sc) sz (fun r (u : Tst) => (fitP K F fc ∧ r = nI (F 1) ∧ u = (F 1, fu (ldK F) kn (F 1), fu (ldM F M) M (F 1), fu (ldC F M C) C (F 1))) ∨ (¬ fitP K F fc ∧ r = -1 ∧ u = (n, kn, M, C))) (fun u => (hwW cI cJ cG R h_ c_ d_ w_ v_ t_ rk_ ro_ rc_ al_ b_ ka_ na_ jo_ me_ wo_ fd_ nr_ nc_ sc_ ar ac K u.1 dn wn vn tk u.2.1 u.2.2.1 u.2.2.2 al kd me px pcs bt wo le F 0 nr nc sc))) 0 0 (va_A (hwW cI cJ cG R h_ c_ d_ w_ v_ t_ rk_ ro_ rc_ al_ b_ ka_ na_ jo_ me_ wo_ fd_ nr_ nc_ sc_ ar ac K n dn wn vn tk kn M C al kd me px pcs bt wo le F fc nr nc sc) sz) := by
  refine gMet (cc := cX3_open) (maxL := 2) (ret := (some .int)) (ls0 := [(0, .ref h_)]) (by decide) rfl (Nat.le_of_ble_eq_true rfl) rfl ?_
  intro p e s m below meth c hx hb hr hts hown hlocks hml hname A hA hAe hsz Q hQe H locs hP hK hD hS ls hl
  have hown : s.vm.findClass RX3 = some m.cls := hown
  have in_X3 : ∀ w ∈ wsX30, w ∈ wsX3_open := by decide +kernel
  have f_48 := hts (.fieldLink RX3 48 "SpectrumHeads" "fedCount" "I") (by decide +kernel)
  have f_25 := hts (.fieldLink RX3 25 "SpectrumHeads" "table" "LSpectrumHeads$Table;") (by decide +kernel)
  have f_44 := hts (.fieldLink RX3 44 "SpectrumHeads" "fed" "[I") (by decide +kernel)
  obtain ⟨⟨hK1, hK4⟩, hn, ⟨hdn, hwn, hvn⟩, ⟨hkn, hM, hC⟩, ⟨hkd, hpx, hpcs, hbt⟩, ⟨hF, hfc⟩, ⟨hnr, hnc⟩⟩ := id hI
  refine lv_aload_n hx hb dX3_open_0 rfl (lv_at hl 0 rfl) ?_
  refine va_get (D := D) (ci := 4) (v := .int (nI fc)) (C := RX3) (T := TX3) (N := 11) hx hb hts in_X3 hown hK hP 0 rfl rfl 7 (by decide) f_48 (fun _ h9 => h9) rfl dX3_open_1 ?_
  refine lv_istore_n (lv' := [(1, .int (nI fc)), (0, .ref h_)]) hx hb dX3_open_4 rfl hl (by decide) rfl (fun ls hl => ?_)
  refine lv_aload_n hx hb dX3_open_5 rfl (lv_at hl 1 rfl) ?_
  refine lv_iconst (v := 0) hx hb dX3_open_6 (by decide) ?_
  refine va_put (D := D) (ci := 4) (v := .int 0) (ty := .int) (C := RX3) (T := TX3) (N := 11) hx hb hts in_X3 tyX3 tyX3_ok nmX3 hown hK hP hD hS 0 rfl rfl 7 (by decide) f_48 (fun _ h9 => h9) rfl (by decide +kernel) rfl rfl (Nat.le_of_ble_eq_true rfl) dX3_open_7 (fun H locs hP hD hS => ?_)
  have hP : va_P D vwCl ((h_, .inr (4, [.int (nI K), .ref c_, .ref t_, .ref b_, .ref wo_, .long le, .ref fd_, .int 0, .ref nr_, .ref nc_, .ref sc_])) :: (c_, .inr (2, [.ref d_, .ref w_, .ref v_, .long tk])) :: (d_, .inl (cI, 8, .inl (nf dn))) :: (w_, .inl (cI, 8, .inl (nf wn))) :: (v_, .inl (cI, 8, .inl (nf vn))) :: (t_, .inr (3, [.int (nI K), .ref rk_, .ref ro_, .ref rc_, .ref al_, .int (nI n)])) :: (rk_, .inl (cI, 40, .inl (nf kn))) :: (ro_, .inl (cG, 40, .inr (.inr (.inr (.inr (og ar)))))) :: (rc_, .inl (cG, 40, .inr (.inr (.inr (.inr (og ac)))))) :: (al_, .inl (cI, 7, .inl (nf al))) :: (b_, .inr (1, [.ref ka_, .ref na_, .ref jo_, .ref me_, .int (nI bt.2.2), .int (nI px), .int (nI pcs)])) :: (ka_, .inl (cI, 256, .inl (k2 kd))) :: (na_, .inl (cI, 256, .inl (l1 bt.1))) :: (jo_, .inl (cI, 100, .inl (nf bt.2.1))) :: (me_, .inl (cI, 100, .inl (nf me))) :: (wo_, .inl (cJ, K, .inr (.inl wo))) :: (fd_, .inl (cI, 400, .inl (nf F))) :: (nr_, .inl (cI, 8, .inl (nf nr))) :: (nc_, .inl (cI, 7, .inl (nf nc))) :: (sc_, .inl (cJ, K, .inr (.inl (lf sc)))) :: (pr cI ar M ++ (pq cI ac C ++ R))) H := hP
  have hD : va_D A ((h_, .inr (4, [.int (nI K), .ref c_, .ref t_, .ref b_, .ref wo_, .long le, .ref fd_, .int 0, .ref nr_, .ref nc_, .ref sc_])) :: (c_, .inr (2, [.ref d_, .ref w_, .ref v_, .long tk])) :: (d_, .inl (cI, 8, .inl (nf dn))) :: (w_, .inl (cI, 8, .inl (nf wn))) :: (v_, .inl (cI, 8, .inl (nf vn))) :: (t_, .inr (3, [.int (nI K), .ref rk_, .ref ro_, .ref rc_, .ref al_, .int (nI n)])) :: (rk_, .inl (cI, 40, .inl (nf kn))) :: (ro_, .inl (cG, 40, .inr (.inr (.inr (.inr (og ar)))))) :: (rc_, .inl (cG, 40, .inr (.inr (.inr (.inr (og ac)))))) :: (al_, .inl (cI, 7, .inl (nf al))) :: (b_, .inr (1, [.ref ka_, .ref na_, .ref jo_, .ref me_, .int (nI bt.2.2), .int (nI px), .int (nI pcs)])) :: (ka_, .inl (cI, 256, .inl (k2 kd))) :: (na_, .inl (cI, 256, .inl (l1 bt.1))) :: (jo_, .inl (cI, 100, .inl (nf bt.2.1))) :: (me_, .inl (cI, 100, .inl (nf me))) :: (wo_, .inl (cJ, K, .inr (.inl wo))) :: (fd_, .inl (cI, 400, .inl (nf F))) :: (nr_, .inl (cI, 8, .inl (nf nr))) :: (nc_, .inl (cI, 7, .inl (nf nc))) :: (sc_, .inl (cJ, K, .inr (.inl (lf sc)))) :: (pr cI ar M ++ (pq cI ac C ++ R))) := hD
  refine lv_aload_n hx hb dX3_open_10 rfl (lv_at hl 1 rfl) ?_
  refine va_get (D := D) (ci := 4) (v := .ref t_) (C := RX3) (T := TX3) (N := 11) hx hb hts in_X3 hown hK hP 0 rfl rfl 2 (by decide) f_25 (fun _ h9 => h9) rfl dX3_open_11 ?_
  refine lv_aload_n hx hb dX3_open_14 rfl (lv_at hl 1 rfl) ?_
  refine va_get (D := D) (ci := 4) (v := .ref fd_) (C := RX3) (T := TX3) (N := 11) hx hb hts in_X3 hown hK hP 0 rfl rfl 6 (by decide) f_44 (fun _ h9 => h9) rfl dX3_open_15 ?_
  refine lv_iload_n hx hb dX3_open_18 rfl (lv_at hl 0 rfl) ?_
  have hP := sw_5_6_7_8_9_16_of_20_P hP
  have hD := sw_5_6_7_8_9_16_of_20_D hD
  refine gc_Vi (As := [.ref fd_, .int (nI fc)]) (rest := []) (ci := 3) (q0 := 0) ⟨hx, hb, hml, hown, hts⟩ (c_X2_fits l D cI cJ cG H.size _ t_ rk_ ro_ rc_ al_ ar ac K n kn M C al fd_ F fc hfc (by omega) hF) (cwV 2 hts gX3_open_X2_fits rfl rfl rfl (by decide +kernel) ⟨Nat.le_of_ble_eq_true rfl, Nat.le_of_ble_eq_true rfl⟩) rfl rfl rfl hK hP hD hS hA rfl hl.1 rfl (Nat.le_of_ble_eq_true rfl) dX3_open_19 ⟨Nat.le_of_ble_eq_true rfl, Nat.le_of_ble_eq_true rfl⟩ (fun r19 u19 H locs h19 hP hD hS => ?_)
  have hP := sw_5_6_7_8_9_16_of_20_Pb hP
  have hD := sw_5_6_7_8_9_16_of_20_Db hD
  have hP : va_P D vwCl ((h_, .inr (4, [.int (nI K), .ref c_, .ref t_, .ref b_, .ref wo_, .long le, .ref fd_, .int 0, .ref nr_, .ref nc_, .ref sc_])) :: (c_, .inr (2, [.ref d_, .ref w_, .ref v_, .long tk])) :: (d_, .inl (cI, 8, .inl (nf dn))) :: (w_, .inl (cI, 8, .inl (nf wn))) :: (v_, .inl (cI, 8, .inl (nf vn))) :: (t_, .inr (3, [.int (nI K), .ref rk_, .ref ro_, .ref rc_, .ref al_, .int (nI n)])) :: (rk_, .inl (cI, 40, .inl (nf kn))) :: (ro_, .inl (cG, 40, .inr (.inr (.inr (.inr (og ar)))))) :: (rc_, .inl (cG, 40, .inr (.inr (.inr (.inr (og ac)))))) :: (al_, .inl (cI, 7, .inl (nf al))) :: (b_, .inr (1, [.ref ka_, .ref na_, .ref jo_, .ref me_, .int (nI bt.2.2), .int (nI px), .int (nI pcs)])) :: (ka_, .inl (cI, 256, .inl (k2 kd))) :: (na_, .inl (cI, 256, .inl (l1 bt.1))) :: (jo_, .inl (cI, 100, .inl (nf bt.2.1))) :: (me_, .inl (cI, 100, .inl (nf me))) :: (wo_, .inl (cJ, K, .inr (.inl wo))) :: (fd_, .inl (cI, 400, .inl (nf F))) :: (nr_, .inl (cI, 8, .inl (nf nr))) :: (nc_, .inl (cI, 7, .inl (nf nc))) :: (sc_, .inl (cJ, K, .inr (.inl (lf sc)))) :: (pr cI ar M ++ (pq cI ac C ++ R))) H := hP
  have hD : va_D A ((h_, .inr (4, [.int (nI K), .ref c_, .ref t_, .ref b_, .ref wo_, .long le, .ref fd_, .int 0, .ref nr_, .ref nc_, .ref sc_])) :: (c_, .inr (2, [.ref d_, .ref w_, .ref v_, .long tk])) :: (d_, .inl (cI, 8, .inl (nf dn))) :: (w_, .inl (cI, 8, .inl (nf wn))) :: (v_, .inl (cI, 8, .inl (nf vn))) :: (t_, .inr (3, [.int (nI K), .ref rk_, .ref ro_, .ref rc_, .ref al_, .int (nI n)])) :: (rk_, .inl (cI, 40, .inl (nf kn))) :: (ro_, .inl (cG, 40, .inr (.inr (.inr (.inr (og ar)))))) :: (rc_, .inl (cG, 40, .inr (.inr (.inr (.inr (og ac)))))) :: (al_, .inl (cI, 7, .inl (nf al))) :: (b_, .inr (1, [.ref ka_, .ref na_, .ref jo_, .ref me_, .int (nI bt.2.2), .int (nI px), .int (nI pcs)])) :: (ka_, .inl (cI, 256, .inl (k2 kd))) :: (na_, .inl (cI, 256, .inl (l1 bt.1))) :: (jo_, .inl (cI, 100, .inl (nf bt.2.1))) :: (me_, .inl (cI, 100, .inl (nf me))) :: (wo_, .inl (cJ, K, .inr (.inl wo))) :: (fd_, .inl (cI, 400, .inl (nf F))) :: (nr_, .inl (cI, 8, .inl (nf nr))) :: (nc_, .inl (cI, 7, .inl (nf nc))) :: (sc_, .inl (cJ, K, .inr (.inl (lf sc)))) :: (pr cI ar M ++ (pq cI ac C ++ R))) := hD
  refine lv_if_ne (tgt := 27) hx hb dX3_open_22 (by decide) (fun c22 => ?_) (fun c22 => ?_)
  · skip
    have hfit : fitP K F fc := h19.elim (fun h => h.2) (fun h => absurd h.1 c22)
    refine lv_aload_n hx hb dX3_open_27 rfl (lv_at hl 1 rfl) ?_
    refine va_get (D := D) (ci := 4) (v := .ref t_) (C := RX3) (T := TX3) (N := 11) hx hb hts in_X3 hown hK hP 0 rfl rfl 2 (by decide) f_25 (fun _ h9 => h9) rfl dX3_open_28 ?_
    refine lv_aload_n hx hb dX3_open_31 rfl (lv_at hl 1 rfl) ?_
    refine va_get (D := D) (ci := 4) (v := .ref fd_) (C := RX3) (T := TX3) (N := 11) hx hb hts in_X3 hown hK hP 0 rfl rfl 6 (by decide) f_44 (fun _ h9 => h9) rfl dX3_open_32 ?_
    have hP := sw_5_6_7_8_9_16_of_20_P hP
    have hD := sw_5_6_7_8_9_16_of_20_D hD
    refine gc_Vv (As := [.ref fd_]) (rest := []) (ci := 3) (q0 := 0) ⟨hx, hb, hml, hown, hts⟩ (c_X2_load l D cI cJ cG H.size _ t_ rk_ ro_ rc_ al_ ar ac K n kn M C al fd_ F hfit.2.2.1 hF hM) (cwV 1 hts gX3_open_X2_load rfl rfl rfl (by decide +kernel) ⟨Nat.le_of_ble_eq_true rfl, Nat.le_of_ble_eq_true rfl⟩) rfl rfl rfl hK hP hD hS hA rfl hl.1 rfl (Nat.le_of_ble_eq_true rfl) dX3_open_35 ⟨Nat.le_of_ble_eq_true rfl, Nat.le_of_ble_eq_true rfl⟩ (fun u35 H locs h35 hP hD hS => ?_)
    have hP := sw_5_6_7_8_9_16_of_20_Pb hP
    have hD := sw_5_6_7_8_9_16_of_20_Db hD
    have hP : va_P D vwCl ((h_, .inr (4, [.int (nI K), .ref c_, .ref t_, .ref b_, .ref wo_, .long le, .ref fd_, .int 0, .ref nr_, .ref nc_, .ref sc_])) :: (c_, .inr (2, [.ref d_, .ref w_, .ref v_, .long tk])) :: (d_, .inl (cI, 8, .inl (nf dn))) :: (w_, .inl (cI, 8, .inl (nf wn))) :: (v_, .inl (cI, 8, .inl (nf vn))) :: (t_, .inr (3, [.int (nI K), .ref rk_, .ref ro_, .ref rc_, .ref al_, .int (nI (F 1))])) :: (rk_, .inl (cI, 40, .inl (nf (fu (ldK F) kn (F 1))))) :: (ro_, .inl (cG, 40, .inr (.inr (.inr (.inr (og ar)))))) :: (rc_, .inl (cG, 40, .inr (.inr (.inr (.inr (og ac)))))) :: (al_, .inl (cI, 7, .inl (nf al))) :: (b_, .inr (1, [.ref ka_, .ref na_, .ref jo_, .ref me_, .int (nI bt.2.2), .int (nI px), .int (nI pcs)])) :: (ka_, .inl (cI, 256, .inl (k2 kd))) :: (na_, .inl (cI, 256, .inl (l1 bt.1))) :: (jo_, .inl (cI, 100, .inl (nf bt.2.1))) :: (me_, .inl (cI, 100, .inl (nf me))) :: (wo_, .inl (cJ, K, .inr (.inl wo))) :: (fd_, .inl (cI, 400, .inl (nf F))) :: (nr_, .inl (cI, 8, .inl (nf nr))) :: (nc_, .inl (cI, 7, .inl (nf nc))) :: (sc_, .inl (cJ, K, .inr (.inl (lf sc)))) :: (pr cI ar (fu (ldM F M) M (F 1)) ++ (pq cI ac (fu (ldC F M C) C (F 1)) ++ R))) H := hP
    have hD : va_D A ((h_, .inr (4, [.int (nI K), .ref c_, .ref t_, .ref b_, .ref wo_, .long le, .ref fd_, .int 0, .ref nr_, .ref nc_, .ref sc_])) :: (c_, .inr (2, [.ref d_, .ref w_, .ref v_, .long tk])) :: (d_, .inl (cI, 8, .inl (nf dn))) :: (w_, .inl (cI, 8, .inl (nf wn))) :: (v_, .inl (cI, 8, .inl (nf vn))) :: (t_, .inr (3, [.int (nI K), .ref rk_, .ref ro_, .ref rc_, .ref al_, .int (nI (F 1))])) :: (rk_, .inl (cI, 40, .inl (nf (fu (ldK F) kn (F 1))))) :: (ro_, .inl (cG, 40, .inr (.inr (.inr (.inr (og ar)))))) :: (rc_, .inl (cG, 40, .inr (.inr (.inr (.inr (og ac)))))) :: (al_, .inl (cI, 7, .inl (nf al))) :: (b_, .inr (1, [.ref ka_, .ref na_, .ref jo_, .ref me_, .int (nI bt.2.2), .int (nI px), .int (nI pcs)])) :: (ka_, .inl (cI, 256, .inl (k2 kd))) :: (na_, .inl (cI, 256, .inl (l1 bt.1))) :: (jo_, .inl (cI, 100, .inl (nf bt.2.1))) :: (me_, .inl (cI, 100, .inl (nf me))) :: (wo_, .inl (cJ, K, .inr (.inl wo))) :: (fd_, .inl (cI, 400, .inl (nf F))) :: (nr_, .inl (cI, 8, .inl (nf nr))) :: (nc_, .inl (cI, 7, .inl (nf nc))) :: (sc_, .inl (cJ, K, .inr (.inl (lf sc)))) :: (pr cI ar (fu (ldM F M) M (F 1)) ++ (pq cI ac (fu (ldC F M C) C (F 1)) ++ R))) := hD
    refine lv_aload_n hx hb dX3_open_38 rfl (lv_at hl 1 rfl) ?_
    refine va_get (D := D) (ci := 4) (v := .ref t_) (C := RX3) (T := TX3) (N := 11) hx hb hts in_X3 hown hK hP 0 rfl rfl 2 (by decide) f_25 (fun _ h9 => h9) rfl dX3_open_39 ?_
    have hP := sw_5_6_7_8_9_of_20_P hP
    have hD := sw_5_6_7_8_9_of_20_D hD
    refine gc_Vi (As := []) (rest := []) (ci := 3) (q0 := 0) ⟨hx, hb, hml, hown, hts⟩ (c_X2_size l D cI cJ cG H.size _ t_ rk_ ro_ rc_ al_ ar ac K (F 1) (fu (ldK F) kn (F 1)) (fu (ldM F M) M (F 1)) (fu (ldC F M C) C (F 1)) al ) (cwV 0 hts gX3_open_X2_size rfl rfl rfl (by decide +kernel) ⟨Nat.le_of_ble_eq_true rfl, Nat.le_of_ble_eq_true rfl⟩) rfl rfl rfl hK hP hD hS hA rfl hl.1 rfl (Nat.le_of_ble_eq_true rfl) dX3_open_42 ⟨Nat.le_of_ble_eq_true rfl, Nat.le_of_ble_eq_true rfl⟩ (fun r42 u42 H locs h42 hP hD hS => ?_)
    subst h42
    have hP := sw_5_6_7_8_9_of_20_Pb hP
    have hD := sw_5_6_7_8_9_of_20_Db hD
    have hP : va_P D vwCl ((h_, .inr (4, [.int (nI K), .ref c_, .ref t_, .ref b_, .ref wo_, .long le, .ref fd_, .int 0, .ref nr_, .ref nc_, .ref sc_])) :: (c_, .inr (2, [.ref d_, .ref w_, .ref v_, .long tk])) :: (d_, .inl (cI, 8, .inl (nf dn))) :: (w_, .inl (cI, 8, .inl (nf wn))) :: (v_, .inl (cI, 8, .inl (nf vn))) :: (t_, .inr (3, [.int (nI K), .ref rk_, .ref ro_, .ref rc_, .ref al_, .int (nI (F 1))])) :: (rk_, .inl (cI, 40, .inl (nf (fu (ldK F) kn (F 1))))) :: (ro_, .inl (cG, 40, .inr (.inr (.inr (.inr (og ar)))))) :: (rc_, .inl (cG, 40, .inr (.inr (.inr (.inr (og ac)))))) :: (al_, .inl (cI, 7, .inl (nf al))) :: (b_, .inr (1, [.ref ka_, .ref na_, .ref jo_, .ref me_, .int (nI bt.2.2), .int (nI px), .int (nI pcs)])) :: (ka_, .inl (cI, 256, .inl (k2 kd))) :: (na_, .inl (cI, 256, .inl (l1 bt.1))) :: (jo_, .inl (cI, 100, .inl (nf bt.2.1))) :: (me_, .inl (cI, 100, .inl (nf me))) :: (wo_, .inl (cJ, K, .inr (.inl wo))) :: (fd_, .inl (cI, 400, .inl (nf F))) :: (nr_, .inl (cI, 8, .inl (nf nr))) :: (nc_, .inl (cI, 7, .inl (nf nc))) :: (sc_, .inl (cJ, K, .inr (.inl (lf sc)))) :: (pr cI ar (fu (ldM F M) M (F 1)) ++ (pq cI ac (fu (ldC F M C) C (F 1)) ++ R))) H := hP
    have hD : va_D A ((h_, .inr (4, [.int (nI K), .ref c_, .ref t_, .ref b_, .ref wo_, .long le, .ref fd_, .int 0, .ref nr_, .ref nc_, .ref sc_])) :: (c_, .inr (2, [.ref d_, .ref w_, .ref v_, .long tk])) :: (d_, .inl (cI, 8, .inl (nf dn))) :: (w_, .inl (cI, 8, .inl (nf wn))) :: (v_, .inl (cI, 8, .inl (nf vn))) :: (t_, .inr (3, [.int (nI K), .ref rk_, .ref ro_, .ref rc_, .ref al_, .int (nI (F 1))])) :: (rk_, .inl (cI, 40, .inl (nf (fu (ldK F) kn (F 1))))) :: (ro_, .inl (cG, 40, .inr (.inr (.inr (.inr (og ar)))))) :: (rc_, .inl (cG, 40, .inr (.inr (.inr (.inr (og ac)))))) :: (al_, .inl (cI, 7, .inl (nf al))) :: (b_, .inr (1, [.ref ka_, .ref na_, .ref jo_, .ref me_, .int (nI bt.2.2), .int (nI px), .int (nI pcs)])) :: (ka_, .inl (cI, 256, .inl (k2 kd))) :: (na_, .inl (cI, 256, .inl (l1 bt.1))) :: (jo_, .inl (cI, 100, .inl (nf bt.2.1))) :: (me_, .inl (cI, 100, .inl (nf me))) :: (wo_, .inl (cJ, K, .inr (.inl wo))) :: (fd_, .inl (cI, 400, .inl (nf F))) :: (nr_, .inl (cI, 8, .inl (nf nr))) :: (nc_, .inl (cI, 7, .inl (nf nc))) :: (sc_, .inl (cJ, K, .inr (.inl (lf sc)))) :: (pr cI ar (fu (ldM F M) M (F 1)) ++ (pq cI ac (fu (ldC F M C) C (F 1)) ++ R))) := hD
    subst hQe
    subst hAe
    subst hsz
    exact g_iret hx hb hr hlocks (F 1, fu (ldK F) kn (F 1), fu (ldM F M) M (F 1), fu (ldC F M C) C (F 1)) (Or.inl ⟨hfit, rfl, rfl⟩) hP hK hD hS dX3_open_45
  · skip
    have hno : ¬ fitP K F fc := h19.elim (fun h => absurd (h.1.symm.trans c22) (by decide)) (fun h => h.2)
    refine lv_iconst (v := -1) hx hb dX3_open_25 (by decide) ?_
    subst hQe
    subst hAe
    subst hsz
    exact g_iret hx hb hr hlocks (n, kn, M, C) (Or.inr ⟨hno, rfl, rfl⟩) hP hK hD hS dX3_open_26
