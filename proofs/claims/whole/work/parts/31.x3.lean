abbrev hwW (cI cJ cG : ClassId) (R : va_W) (h_ c_ d_ w_ v_ t_ rk_ ro_ rc_ al_ b_ ka_ na_ jo_ me_ wo_ fd_ nr_ nc_ sc_ : Nat) (ar ac : Nat → Nat) (K : Nat) (n : Nat) (dn : Nat → Nat) (wn : Nat → Nat) (vn : Nat → Nat) (tk : Int64) (kn : Nat → Nat) (M : Nat → Nat → Nat) (C : Nat → Nat → Nat) (al : Nat → Nat) (kd : Nat → Nat) (me : Nat → Nat) (px : Nat) (pcs : Nat) (bt : Bst) (wo : Nat → Int64) (le : Int64) (F : Nat → Nat) (fc : Nat) (nr : Nat → Nat) (nc : Nat → Nat) (sc : Nat → Nat) : va_W := ((h_, .inr (4, [.int (nI K), .ref c_, .ref t_, .ref b_, .ref wo_, .long le, .ref fd_, .int (nI fc), .ref nr_, .ref nc_, .ref sc_])) :: (c_, .inr (2, [.ref d_, .ref w_, .ref v_, .long tk])) :: (d_, .inl (cI, 8, .inl (nf dn))) :: (w_, .inl (cI, 8, .inl (nf wn))) :: (v_, .inl (cI, 8, .inl (nf vn))) :: (t_, .inr (3, [.int (nI K), .ref rk_, .ref ro_, .ref rc_, .ref al_, .int (nI n)])) :: (rk_, .inl (cI, 40, .inl (nf kn))) :: (ro_, .inl (cG, 40, .inr (.inr (.inr (.inr (og ar)))))) :: (rc_, .inl (cG, 40, .inr (.inr (.inr (.inr (og ac)))))) :: (al_, .inl (cI, 7, .inl (nf al))) :: (b_, .inr (1, [.ref ka_, .ref na_, .ref jo_, .ref me_, .int (nI bt.2.2), .int (nI px), .int (nI pcs)])) :: (ka_, .inl (cI, 256, .inl (k2 kd))) :: (na_, .inl (cI, 256, .inl (l1 bt.1))) :: (jo_, .inl (cI, 100, .inl (nf bt.2.1))) :: (me_, .inl (cI, 100, .inl (nf me))) :: (wo_, .inl (cJ, K, .inr (.inl wo))) :: (fd_, .inl (cI, 400, .inl (nf F))) :: (nr_, .inl (cI, 8, .inl (nf nr))) :: (nc_, .inl (cI, 7, .inl (nf nc))) :: (sc_, .inl (cJ, K, .inr (.inl (lf sc)))) :: (pr cI ar M ++ (pq cI ac C ++ R)))
abbrev rX3_isKind : Room := { frames := 0, cells := 0, slots := 0, locals := 0 }
set_option maxHeartbeats 4000000 in
set_option maxRecDepth 100000 in
theorem c_X3_isKind (l : Launch) (D : va_G) (cI cJ cG : ClassId) (sz : Nat) (R : va_W) (h_ c_ t_ b_ wo_ fd_ nr_ nc_ sc_ K fc : Nat) (le : Int64) (x : Int32) (hK4 : K ≤ 4) : Met l yX3_isKind wsX3_isKind rX3_isKind (gP D (tyl cI cJ cG) [.ref h_, .int x] ((h_, .inr (4, [.int (nI K), .ref c_, .ref t_, .ref b_, .ref wo_, .long le, .ref fd_, .int (nI fc), .ref nr_, .ref nc_, .ref sc_])) :: R) sz) (gQi D (tyl cI cJ cG) ((h_, .inr (4, [.int (nI K), .ref c_, .ref t_, .ref b_, .ref wo_, .long le, .ref fd_, .int (nI fc), .ref nr_, .ref nc_, .ref sc_])) :: R) sz (fun r (_ : Unit) => r = bI (inB x K)) (fun _ => ((h_, .inr (4, [.int (nI K), .ref c_, .ref t_, .ref b_, .ref wo_, .long le, .ref fd_, .int (nI fc), .ref nr_, .ref nc_, .ref sc_])) :: R))) 0 0 (va_A ((h_, .inr (4, [.int (nI K), .ref c_, .ref t_, .ref b_, .ref wo_, .long le, .ref fd_, .int (nI fc), .ref nr_, .ref nc_, .ref sc_])) :: R) sz) := by
  refine gMet (cc := cX3_isKind) (maxL := 2) (ret := (some .boolean)) (ls0 := [(0, .ref h_), (1, .int x)]) (by decide) rfl (Nat.le_of_ble_eq_true rfl) rfl ?_
  intro p e s m below meth c hx hb hr hts hown hlocks hml hname A hA hAe hsz Q hQe H locs hP hK hD hS ls hl
  have hown : s.vm.findClass RX3 = some m.cls := hown
  have in_X3 : ∀ w ∈ wsX30, w ∈ wsX3_isKind := by decide +kernel
  have f_9 := hts (.fieldLink RX3 9 "SpectrumHeads" "kinds" "I") (by decide +kernel)
  refine lv_iload_n hx hb dX3_isKind_0 rfl (lv_at hl 1 rfl) ?_
  refine lv_if_lt (tgt := 16) hx hb dX3_isKind_1 (by decide) (fun c1 => ?_) (fun c1 => ?_)
  · skip
    refine lv_iconst (v := 0) hx hb dX3_isKind_16 (by decide) ?_
    subst hQe
    subst hAe
    subst hsz
    exact g_zret hx hb hr hlocks rfl () (by first | (rw [inB_f1 c1]; rfl) | (rw [inB_f2 (n := K) (by omega) c9]; rfl) | (rw [inB_t (n := K) (by omega) c1 c9]; rfl)) hP hK hD hS dX3_isKind_17
  · skip
    refine lv_iload_n hx hb dX3_isKind_4 rfl (lv_at hl 1 rfl) ?_
    refine lv_aload_n hx hb dX3_isKind_5 rfl (lv_at hl 0 rfl) ?_
    refine va_get (D := D) (ci := 4) (v := .int (nI K)) (C := RX3) (T := TX3) (N := 11) hx hb hts in_X3 hown hK hP 0 rfl rfl 0 (by decide) f_9 (fun _ h9 => h9) rfl dX3_isKind_6 ?_
    refine lv_icmp_ge (tgt := 16) hx hb dX3_isKind_9 (by decide) (fun c9 => ?_) (fun c9 => ?_)
    · skip
      refine lv_iconst (v := 0) hx hb dX3_isKind_16 (by decide) ?_
      subst hQe
      subst hAe
      subst hsz
      exact g_zret hx hb hr hlocks rfl () (by first | (rw [inB_f1 c1]; rfl) | (rw [inB_f2 (n := K) (by omega) c9]; rfl) | (rw [inB_t (n := K) (by omega) c1 c9]; rfl)) hP hK hD hS dX3_isKind_17
    · skip
      refine lv_iconst (v := 1) hx hb dX3_isKind_12 (by decide) ?_
      refine lv_goto (tgt := 17) hx hb dX3_isKind_13 (by decide) ?_
      subst hQe
      subst hAe
      subst hsz
      exact g_zret hx hb hr hlocks rfl () (by first | (rw [inB_f1 c1]; rfl) | (rw [inB_f2 (n := K) (by omega) c9]; rfl) | (rw [inB_t (n := K) (by omega) c1 c9]; rfl)) hP hK hD hS dX3_isKind_17
theorem pm_1_2_3_4_0_5_6_7_8_9_10_11_12_13_14_15_16_17_18_19_P {D : va_G} {cl : List vw_C} {H : Heap} {x0 x1 x2 x3 x4 x5 x6 x7 x8 x9 x10 x11 x12 x13 x14 x15 x16 x17 x18 x19 : Nat × va_E} {T : va_W} (h : va_P D cl (x0 :: x1 :: x2 :: x3 :: x4 :: x5 :: x6 :: x7 :: x8 :: x9 :: x10 :: x11 :: x12 :: x13 :: x14 :: x15 :: x16 :: x17 :: x18 :: x19 :: T) H) : va_P D cl (x1 :: x2 :: x3 :: x4 :: x0 :: x5 :: x6 :: x7 :: x8 :: x9 :: x10 :: x11 :: x12 :: x13 :: x14 :: x15 :: x16 :: x17 :: x18 :: x19 :: T) H := va_P.part (X := [x0, x1, x2, x3, x4, x5, x6, x7, x8, x9, x10, x11, x12, x13, x14, x15, x16, x17, x18, x19]) (pl := T) (cx := [x1, x2, x3, x4, x0, x5, x6, x7, x8, x9, x10, x11, x12, x13, x14, x15, x16, x17, x18, x19]) h [1, 2, 3, 4, 0, 5, 6, 7, 8, 9, 10, 11, 12, 13, 14, 15, 16, 17, 18, 19] rfl
theorem pm_1_2_3_4_0_5_6_7_8_9_10_11_12_13_14_15_16_17_18_19_D {A : Nat → Prop} {x0 x1 x2 x3 x4 x5 x6 x7 x8 x9 x10 x11 x12 x13 x14 x15 x16 x17 x18 x19 : Nat × va_E} {T : va_W} (h : va_D A (x0 :: x1 :: x2 :: x3 :: x4 :: x5 :: x6 :: x7 :: x8 :: x9 :: x10 :: x11 :: x12 :: x13 :: x14 :: x15 :: x16 :: x17 :: x18 :: x19 :: T)) : va_D A (x1 :: x2 :: x3 :: x4 :: x0 :: x5 :: x6 :: x7 :: x8 :: x9 :: x10 :: x11 :: x12 :: x13 :: x14 :: x15 :: x16 :: x17 :: x18 :: x19 :: T) := va_D.part (X := [x0, x1, x2, x3, x4, x5, x6, x7, x8, x9, x10, x11, x12, x13, x14, x15, x16, x17, x18, x19]) (pl := T) (cx := [x1, x2, x3, x4, x0, x5, x6, x7, x8, x9, x10, x11, x12, x13, x14, x15, x16, x17, x18, x19]) h [1, 2, 3, 4, 0, 5, 6, 7, 8, 9, 10, 11, 12, 13, 14, 15, 16, 17, 18, 19] (by decide) rfl
theorem pm_4_0_1_2_3_5_6_7_8_9_10_11_12_13_14_15_16_17_18_19_P {D : va_G} {cl : List vw_C} {H : Heap} {x0 x1 x2 x3 x4 x5 x6 x7 x8 x9 x10 x11 x12 x13 x14 x15 x16 x17 x18 x19 : Nat × va_E} {T : va_W} (h : va_P D cl (x0 :: x1 :: x2 :: x3 :: x4 :: x5 :: x6 :: x7 :: x8 :: x9 :: x10 :: x11 :: x12 :: x13 :: x14 :: x15 :: x16 :: x17 :: x18 :: x19 :: T) H) : va_P D cl (x4 :: x0 :: x1 :: x2 :: x3 :: x5 :: x6 :: x7 :: x8 :: x9 :: x10 :: x11 :: x12 :: x13 :: x14 :: x15 :: x16 :: x17 :: x18 :: x19 :: T) H := va_P.part (X := [x0, x1, x2, x3, x4, x5, x6, x7, x8, x9, x10, x11, x12, x13, x14, x15, x16, x17, x18, x19]) (pl := T) (cx := [x4, x0, x1, x2, x3, x5, x6, x7, x8, x9, x10, x11, x12, x13, x14, x15, x16, x17, x18, x19]) h [4, 0, 1, 2, 3, 5, 6, 7, 8, 9, 10, 11, 12, 13, 14, 15, 16, 17, 18, 19] rfl
theorem pm_4_0_1_2_3_5_6_7_8_9_10_11_12_13_14_15_16_17_18_19_D {A : Nat → Prop} {x0 x1 x2 x3 x4 x5 x6 x7 x8 x9 x10 x11 x12 x13 x14 x15 x16 x17 x18 x19 : Nat × va_E} {T : va_W} (h : va_D A (x0 :: x1 :: x2 :: x3 :: x4 :: x5 :: x6 :: x7 :: x8 :: x9 :: x10 :: x11 :: x12 :: x13 :: x14 :: x15 :: x16 :: x17 :: x18 :: x19 :: T)) : va_D A (x4 :: x0 :: x1 :: x2 :: x3 :: x5 :: x6 :: x7 :: x8 :: x9 :: x10 :: x11 :: x12 :: x13 :: x14 :: x15 :: x16 :: x17 :: x18 :: x19 :: T) := va_D.part (X := [x0, x1, x2, x3, x4, x5, x6, x7, x8, x9, x10, x11, x12, x13, x14, x15, x16, x17, x18, x19]) (pl := T) (cx := [x4, x0, x1, x2, x3, x5, x6, x7, x8, x9, x10, x11, x12, x13, x14, x15, x16, x17, x18, x19]) h [4, 0, 1, 2, 3, 5, 6, 7, 8, 9, 10, 11, 12, 13, 14, 15, 16, 17, 18, 19] (by decide) rfl
abbrev rX3_dark : Room := { frames := 1, cells := 0, slots := 0, locals := 22 }
set_option maxHeartbeats 4000000 in
set_option maxRecDepth 100000 in
theorem c_X3_dark (l : Launch) (D : va_G) (cI cJ cG : ClassId) (sz : Nat) (R : va_W) (h_ c_ d_ w_ v_ t_ rk_ ro_ rc_ al_ b_ ka_ na_ jo_ me_ wo_ fd_ nr_ nc_ sc_ : Nat) (ar ac : Nat → Nat) (K : Nat) (n : Nat) (dn : Nat → Nat) (wn : Nat → Nat) (vn : Nat → Nat) (tk : Int64) (kn : Nat → Nat) (M : Nat → Nat → Nat) (C : Nat → Nat → Nat) (al : Nat → Nat) (kd : Nat → Nat) (me : Nat → Nat) (px : Nat) (pcs : Nat) (bt : Bst) (wo : Nat → Int64) (le : Int64) (F : Nat → Nat) (fc : Nat) (nr : Nat → Nat) (nc : Nat → Nat) (sc : Nat → Nat) (x y : Int32) (hI : HI K n dn wn vn kn M C kd px pcs bt F fc nr nc) : Met l yX3_dark wsX3_dark rX3_dark (gP D (tyl cI cJ cG) [.ref h_, .int x, .int y] (hwW cI cJ cG R h_ c_ d_ w_ v_ t_ rk_ ro_ rc_ al_ b_ ka_ na_ jo_ me_ wo_ fd_ nr_ nc_ sc_ ar ac K n dn wn vn tk kn M C al kd me px pcs bt wo le F fc nr nc sc) sz) (gQi D (tyl cI cJ cG) (hwW cI cJ cG R h_ c_ d_ w_ v_ t_ rk_ ro_ rc_ al_ b_ ka_ na_ jo_ me_ wo_ fd_ nr_ nc_ sc_ ar ac K n dn wn vn tk kn M C al kd me px pcs bt wo le F fc nr nc sc) sz (fun r (u : Nat → Nat) => r = bI (inB x 8 && inB y 256) ∧ u = setN x y dn) (fun u => (hwW cI cJ cG R h_ c_ d_ w_ v_ t_ rk_ ro_ rc_ al_ b_ ka_ na_ jo_ me_ wo_ fd_ nr_ nc_ sc_ ar ac K n u wn vn tk kn M C al kd me px pcs bt wo le F fc nr nc sc))) 0 0 (va_A (hwW cI cJ cG R h_ c_ d_ w_ v_ t_ rk_ ro_ rc_ al_ b_ ka_ na_ jo_ me_ wo_ fd_ nr_ nc_ sc_ ar ac K n dn wn vn tk kn M C al kd me px pcs bt wo le F fc nr nc sc) sz) := by
  refine gMet (cc := cX3_dark) (maxL := 3) (ret := (some .boolean)) (ls0 := [(0, .ref h_), (1, .int x), (2, .int y)]) (by decide) rfl (Nat.le_of_ble_eq_true rfl) rfl ?_
  intro p e s m below meth c hx hb hr hts hown hlocks hml hname A hA hAe hsz Q hQe H locs hP hK hD hS ls hl
  have hown : s.vm.findClass RX3 = some m.cls := hown
  have in_X3 : ∀ w ∈ wsX30, w ∈ wsX3_dark := by decide +kernel
  have f_16 := hts (.fieldLink RX3 16 "SpectrumHeads" "channels" "LSpectrumHeads$Channels;") (by decide +kernel)
  refine lv_iload_n hx hb dX3_dark_0 rfl (lv_at hl 1 rfl) ?_
  refine gc_Si (As := [.int x]) (rest := []) ⟨hx, hb, hml, hown, hts⟩ (c_X3_isChannel l D cI cJ cG H.size _ x) (va_cwS 1 hts gX3_dark_X3_isChannel rfl rfl rfl (by decide +kernel) ⟨Nat.le_of_ble_eq_true rfl, Nat.le_of_ble_eq_true rfl⟩) hK hP hD hS hA rfl hl.1 rfl (Nat.le_of_ble_eq_true rfl) dX3_dark_1 ⟨Nat.le_of_ble_eq_true rfl, Nat.le_of_ble_eq_true rfl⟩ (fun r1 u1 H locs h1 hP hD hS => ?_)
  subst h1
  have hP : va_P D vwCl (hwW cI cJ cG R h_ c_ d_ w_ v_ t_ rk_ ro_ rc_ al_ b_ ka_ na_ jo_ me_ wo_ fd_ nr_ nc_ sc_ ar ac K n dn wn vn tk kn M C al kd me px pcs bt wo le F fc nr nc sc) H := hP
  have hD : va_D A (hwW cI cJ cG R h_ c_ d_ w_ v_ t_ rk_ ro_ rc_ al_ b_ ka_ na_ jo_ me_ wo_ fd_ nr_ nc_ sc_ ar ac K n dn wn vn tk kn M C al kd me px pcs bt wo le F fc nr nc sc) := hD
  refine lv_if_eq (tgt := 30) hx hb dX3_dark_4 (by decide) (fun c4 => ?_) (fun c4 => ?_)
  · skip
    have hB4 := bI_0.mp c4
    refine lv_iconst (v := 0) hx hb dX3_dark_30 (by decide) ?_
    subst hQe
    subst hAe
    subst hsz
    exact g_zret hx hb hr hlocks rfl dn (by first | exact ⟨by rw [hB4]; rfl, setN_f1 hB4⟩ | exact ⟨by rw [hB11, Bool.and_false]; rfl, setN_f2 hB11⟩) hP hK hD hS dX3_dark_31
  · skip
    have hB4 := bI_n0.mp c4
    obtain ⟨a, ha_, rfl⟩ := inB_of hB4 (by omega)
    refine lv_iload_n hx hb dX3_dark_7 rfl (lv_at hl 2 rfl) ?_
    refine gc_Si (As := [.int y]) (rest := []) ⟨hx, hb, hml, hown, hts⟩ (c_X3_isByte l D cI cJ cG H.size _ y) (va_cwS 1 hts gX3_dark_X3_isByte rfl rfl rfl (by decide +kernel) ⟨Nat.le_of_ble_eq_true rfl, Nat.le_of_ble_eq_true rfl⟩) hK hP hD hS hA rfl hl.1 rfl (Nat.le_of_ble_eq_true rfl) dX3_dark_8 ⟨Nat.le_of_ble_eq_true rfl, Nat.le_of_ble_eq_true rfl⟩ (fun r8 u8 H locs h8 hP hD hS => ?_)
    subst h8
    have hP : va_P D vwCl (hwW cI cJ cG R h_ c_ d_ w_ v_ t_ rk_ ro_ rc_ al_ b_ ka_ na_ jo_ me_ wo_ fd_ nr_ nc_ sc_ ar ac K n dn wn vn tk kn M C al kd me px pcs bt wo le F fc nr nc sc) H := hP
    have hD : va_D A (hwW cI cJ cG R h_ c_ d_ w_ v_ t_ rk_ ro_ rc_ al_ b_ ka_ na_ jo_ me_ wo_ fd_ nr_ nc_ sc_ ar ac K n dn wn vn tk kn M C al kd me px pcs bt wo le F fc nr nc sc) := hD
    refine lv_if_eq (tgt := 30) hx hb dX3_dark_11 (by decide) (fun c11 => ?_) (fun c11 => ?_)
    · skip
      have hB11 := bI_0.mp c11
      refine lv_iconst (v := 0) hx hb dX3_dark_30 (by decide) ?_
      subst hQe
      subst hAe
      subst hsz
      exact g_zret hx hb hr hlocks rfl dn (by first | exact ⟨by rw [hB4]; rfl, setN_f1 hB4⟩ | exact ⟨by rw [hB11, Bool.and_false]; rfl, setN_f2 hB11⟩) hP hK hD hS dX3_dark_31
    · skip
      have hB11 := bI_n0.mp c11
      obtain ⟨b, hb_, rfl⟩ := inB_of hB11 (by omega)
      refine lv_aload_n hx hb dX3_dark_14 rfl (lv_at hl 0 rfl) ?_
      refine va_get (D := D) (ci := 4) (v := .ref c_) (C := RX3) (T := TX3) (N := 11) hx hb hts in_X3 hown hK hP 0 rfl rfl 1 (by decide) f_16 (fun _ h9 => h9) rfl dX3_dark_15 ?_
      refine lv_iload_n hx hb dX3_dark_18 rfl (lv_at hl 1 rfl) ?_
      refine lv_iload_n hx hb dX3_dark_19 rfl (lv_at hl 2 rfl) ?_
      have hP := pm_1_2_3_4_0_5_6_7_8_9_10_11_12_13_14_15_16_17_18_19_P hP
      have hD := pm_1_2_3_4_0_5_6_7_8_9_10_11_12_13_14_15_16_17_18_19_D hD
      refine gc_Vi (As := [.int (nI a), .int (nI b)]) (rest := []) (ci := 2) (q0 := 0) ⟨hx, hb, hml, hown, hts⟩ (c_X1_setDark l D cI cJ cG H.size _ c_ d_ w_ v_ dn wn vn tk a b ha_) (cwV 2 hts gX3_dark_X1_setDark rfl rfl rfl (by decide +kernel) ⟨Nat.le_of_ble_eq_true rfl, Nat.le_of_ble_eq_true rfl⟩) rfl rfl rfl hK hP hD hS hA rfl hl.1 rfl (Nat.le_of_ble_eq_true rfl) dX3_dark_20 ⟨Nat.le_of_ble_eq_true rfl, Nat.le_of_ble_eq_true rfl⟩ (fun r20 u20 H locs h20 hP hD hS => ?_)
      subst h20
      have hP := pm_4_0_1_2_3_5_6_7_8_9_10_11_12_13_14_15_16_17_18_19_P hP
      have hD := pm_4_0_1_2_3_5_6_7_8_9_10_11_12_13_14_15_16_17_18_19_D hD
      have hP : va_P D vwCl (hwW cI cJ cG R h_ c_ d_ w_ v_ t_ rk_ ro_ rc_ al_ b_ ka_ na_ jo_ me_ wo_ fd_ nr_ nc_ sc_ ar ac K n (un dn a b) wn vn tk kn M C al kd me px pcs bt wo le F fc nr nc sc) H := hP
      have hD : va_D A (hwW cI cJ cG R h_ c_ d_ w_ v_ t_ rk_ ro_ rc_ al_ b_ ka_ na_ jo_ me_ wo_ fd_ nr_ nc_ sc_ ar ac K n (un dn a b) wn vn tk kn M C al kd me px pcs bt wo le F fc nr nc sc) := hD
      refine lv_if_eq (tgt := 30) hx hb dX3_dark_23 (by decide) (fun c23 => ?_) (fun c23 => ?_)
      · skip
        exact absurd c23 (by decide)
      · skip
        refine lv_iconst (v := 1) hx hb dX3_dark_26 (by decide) ?_
        refine lv_goto (tgt := 31) hx hb dX3_dark_27 (by decide) ?_
        subst hQe
        subst hAe
        subst hsz
        exact g_zret hx hb hr hlocks rfl (un dn a b) ⟨by rw [inB_nI ha_ (by omega), inB_nI hb_ (by omega)]; rfl, setN_t ha_ hb_⟩ hP hK hD hS dX3_dark_31
abbrev rX3_value : Room := { frames := 1, cells := 0, slots := 0, locals := 22 }
set_option maxHeartbeats 4000000 in
set_option maxRecDepth 100000 in
theorem c_X3_value (l : Launch) (D : va_G) (cI cJ cG : ClassId) (sz : Nat) (R : va_W) (h_ c_ d_ w_ v_ t_ rk_ ro_ rc_ al_ b_ ka_ na_ jo_ me_ wo_ fd_ nr_ nc_ sc_ : Nat) (ar ac : Nat → Nat) (K : Nat) (n : Nat) (dn : Nat → Nat) (wn : Nat → Nat) (vn : Nat → Nat) (tk : Int64) (kn : Nat → Nat) (M : Nat → Nat → Nat) (C : Nat → Nat → Nat) (al : Nat → Nat) (kd : Nat → Nat) (me : Nat → Nat) (px : Nat) (pcs : Nat) (bt : Bst) (wo : Nat → Int64) (le : Int64) (F : Nat → Nat) (fc : Nat) (nr : Nat → Nat) (nc : Nat → Nat) (sc : Nat → Nat) (x y : Int32) (hI : HI K n dn wn vn kn M C kd px pcs bt F fc nr nc) : Met l yX3_value wsX3_value rX3_value (gP D (tyl cI cJ cG) [.ref h_, .int x, .int y] (hwW cI cJ cG R h_ c_ d_ w_ v_ t_ rk_ ro_ rc_ al_ b_ ka_ na_ jo_ me_ wo_ fd_ nr_ nc_ sc_ ar ac K n dn wn vn tk kn M C al kd me px pcs bt wo le F fc nr nc sc) sz) (gQi D (tyl cI cJ cG) (hwW cI cJ cG R h_ c_ d_ w_ v_ t_ rk_ ro_ rc_ al_ b_ ka_ na_ jo_ me_ wo_ fd_ nr_ nc_ sc_ ar ac K n dn wn vn tk kn M C al kd me px pcs bt wo le F fc nr nc sc) sz (fun r (u : Nat → Nat) => r = bI (inB x 8 && inB y 256) ∧ u = setN x y vn) (fun u => (hwW cI cJ cG R h_ c_ d_ w_ v_ t_ rk_ ro_ rc_ al_ b_ ka_ na_ jo_ me_ wo_ fd_ nr_ nc_ sc_ ar ac K n dn wn u tk kn M C al kd me px pcs bt wo le F fc nr nc sc))) 0 0 (va_A (hwW cI cJ cG R h_ c_ d_ w_ v_ t_ rk_ ro_ rc_ al_ b_ ka_ na_ jo_ me_ wo_ fd_ nr_ nc_ sc_ ar ac K n dn wn vn tk kn M C al kd me px pcs bt wo le F fc nr nc sc) sz) := by
  refine gMet (cc := cX3_value) (maxL := 3) (ret := (some .boolean)) (ls0 := [(0, .ref h_), (1, .int x), (2, .int y)]) (by decide) rfl (Nat.le_of_ble_eq_true rfl) rfl ?_
  intro p e s m below meth c hx hb hr hts hown hlocks hml hname A hA hAe hsz Q hQe H locs hP hK hD hS ls hl
  have hown : s.vm.findClass RX3 = some m.cls := hown
  have in_X3 : ∀ w ∈ wsX30, w ∈ wsX3_value := by decide +kernel
  have f_16 := hts (.fieldLink RX3 16 "SpectrumHeads" "channels" "LSpectrumHeads$Channels;") (by decide +kernel)
  refine lv_iload_n hx hb dX3_value_0 rfl (lv_at hl 1 rfl) ?_
  refine gc_Si (As := [.int x]) (rest := []) ⟨hx, hb, hml, hown, hts⟩ (c_X3_isChannel l D cI cJ cG H.size _ x) (va_cwS 1 hts gX3_value_X3_isChannel rfl rfl rfl (by decide +kernel) ⟨Nat.le_of_ble_eq_true rfl, Nat.le_of_ble_eq_true rfl⟩) hK hP hD hS hA rfl hl.1 rfl (Nat.le_of_ble_eq_true rfl) dX3_value_1 ⟨Nat.le_of_ble_eq_true rfl, Nat.le_of_ble_eq_true rfl⟩ (fun r1 u1 H locs h1 hP hD hS => ?_)
  subst h1
  have hP : va_P D vwCl (hwW cI cJ cG R h_ c_ d_ w_ v_ t_ rk_ ro_ rc_ al_ b_ ka_ na_ jo_ me_ wo_ fd_ nr_ nc_ sc_ ar ac K n dn wn vn tk kn M C al kd me px pcs bt wo le F fc nr nc sc) H := hP
  have hD : va_D A (hwW cI cJ cG R h_ c_ d_ w_ v_ t_ rk_ ro_ rc_ al_ b_ ka_ na_ jo_ me_ wo_ fd_ nr_ nc_ sc_ ar ac K n dn wn vn tk kn M C al kd me px pcs bt wo le F fc nr nc sc) := hD
  refine lv_if_eq (tgt := 30) hx hb dX3_value_4 (by decide) (fun c4 => ?_) (fun c4 => ?_)
  · skip
    have hB4 := bI_0.mp c4
    refine lv_iconst (v := 0) hx hb dX3_value_30 (by decide) ?_
    subst hQe
    subst hAe
    subst hsz
    exact g_zret hx hb hr hlocks rfl vn (by first | exact ⟨by rw [hB4]; rfl, setN_f1 hB4⟩ | exact ⟨by rw [hB11, Bool.and_false]; rfl, setN_f2 hB11⟩) hP hK hD hS dX3_value_31
  · skip
    have hB4 := bI_n0.mp c4
    obtain ⟨a, ha_, rfl⟩ := inB_of hB4 (by omega)
    refine lv_iload_n hx hb dX3_value_7 rfl (lv_at hl 2 rfl) ?_
    refine gc_Si (As := [.int y]) (rest := []) ⟨hx, hb, hml, hown, hts⟩ (c_X3_isByte l D cI cJ cG H.size _ y) (va_cwS 1 hts gX3_value_X3_isByte rfl rfl rfl (by decide +kernel) ⟨Nat.le_of_ble_eq_true rfl, Nat.le_of_ble_eq_true rfl⟩) hK hP hD hS hA rfl hl.1 rfl (Nat.le_of_ble_eq_true rfl) dX3_value_8 ⟨Nat.le_of_ble_eq_true rfl, Nat.le_of_ble_eq_true rfl⟩ (fun r8 u8 H locs h8 hP hD hS => ?_)
    subst h8
    have hP : va_P D vwCl (hwW cI cJ cG R h_ c_ d_ w_ v_ t_ rk_ ro_ rc_ al_ b_ ka_ na_ jo_ me_ wo_ fd_ nr_ nc_ sc_ ar ac K n dn wn vn tk kn M C al kd me px pcs bt wo le F fc nr nc sc) H := hP
    have hD : va_D A (hwW cI cJ cG R h_ c_ d_ w_ v_ t_ rk_ ro_ rc_ al_ b_ ka_ na_ jo_ me_ wo_ fd_ nr_ nc_ sc_ ar ac K n dn wn vn tk kn M C al kd me px pcs bt wo le F fc nr nc sc) := hD
    refine lv_if_eq (tgt := 30) hx hb dX3_value_11 (by decide) (fun c11 => ?_) (fun c11 => ?_)
    · skip
      have hB11 := bI_0.mp c11
      refine lv_iconst (v := 0) hx hb dX3_value_30 (by decide) ?_
      subst hQe
      subst hAe
      subst hsz
      exact g_zret hx hb hr hlocks rfl vn (by first | exact ⟨by rw [hB4]; rfl, setN_f1 hB4⟩ | exact ⟨by rw [hB11, Bool.and_false]; rfl, setN_f2 hB11⟩) hP hK hD hS dX3_value_31
    · skip
      have hB11 := bI_n0.mp c11
      obtain ⟨b, hb_, rfl⟩ := inB_of hB11 (by omega)
      refine lv_aload_n hx hb dX3_value_14 rfl (lv_at hl 0 rfl) ?_
      refine va_get (D := D) (ci := 4) (v := .ref c_) (C := RX3) (T := TX3) (N := 11) hx hb hts in_X3 hown hK hP 0 rfl rfl 1 (by decide) f_16 (fun _ h9 => h9) rfl dX3_value_15 ?_
      refine lv_iload_n hx hb dX3_value_18 rfl (lv_at hl 1 rfl) ?_
      refine lv_iload_n hx hb dX3_value_19 rfl (lv_at hl 2 rfl) ?_
      have hP := pm_1_2_3_4_0_5_6_7_8_9_10_11_12_13_14_15_16_17_18_19_P hP
      have hD := pm_1_2_3_4_0_5_6_7_8_9_10_11_12_13_14_15_16_17_18_19_D hD
      refine gc_Vi (As := [.int (nI a), .int (nI b)]) (rest := []) (ci := 2) (q0 := 0) ⟨hx, hb, hml, hown, hts⟩ (c_X1_setValue l D cI cJ cG H.size _ c_ d_ w_ v_ dn wn vn tk a b ha_) (cwV 2 hts gX3_value_X1_setValue rfl rfl rfl (by decide +kernel) ⟨Nat.le_of_ble_eq_true rfl, Nat.le_of_ble_eq_true rfl⟩) rfl rfl rfl hK hP hD hS hA rfl hl.1 rfl (Nat.le_of_ble_eq_true rfl) dX3_value_20 ⟨Nat.le_of_ble_eq_true rfl, Nat.le_of_ble_eq_true rfl⟩ (fun r20 u20 H locs h20 hP hD hS => ?_)
      subst h20
      have hP := pm_4_0_1_2_3_5_6_7_8_9_10_11_12_13_14_15_16_17_18_19_P hP
      have hD := pm_4_0_1_2_3_5_6_7_8_9_10_11_12_13_14_15_16_17_18_19_D hD
      have hP : va_P D vwCl (hwW cI cJ cG R h_ c_ d_ w_ v_ t_ rk_ ro_ rc_ al_ b_ ka_ na_ jo_ me_ wo_ fd_ nr_ nc_ sc_ ar ac K n dn wn (un vn a b) tk kn M C al kd me px pcs bt wo le F fc nr nc sc) H := hP
      have hD : va_D A (hwW cI cJ cG R h_ c_ d_ w_ v_ t_ rk_ ro_ rc_ al_ b_ ka_ na_ jo_ me_ wo_ fd_ nr_ nc_ sc_ ar ac K n dn wn (un vn a b) tk kn M C al kd me px pcs bt wo le F fc nr nc sc) := hD
      refine lv_if_eq (tgt := 30) hx hb dX3_value_23 (by decide) (fun c23 => ?_) (fun c23 => ?_)
      · skip
        exact absurd c23 (by decide)
      · skip
        refine lv_iconst (v := 1) hx hb dX3_value_26 (by decide) ?_
        refine lv_goto (tgt := 31) hx hb dX3_value_27 (by decide) ?_
        subst hQe
        subst hAe
        subst hsz
        exact g_zret hx hb hr hlocks rfl (un vn a b) ⟨by rw [inB_nI ha_ (by omega), inB_nI hb_ (by omega)]; rfl, setN_t ha_ hb_⟩ hP hK hD hS dX3_value_31
abbrev rX3_reference : Room := { frames := 2, cells := 0, slots := 0, locals := 46 }
set_option maxHeartbeats 4000000 in
set_option maxRecDepth 100000 in
theorem c_X3_reference (l : Launch) (D : va_G) (cI cJ cG : ClassId) (sz : Nat) (R : va_W) (h_ c_ d_ w_ v_ t_ rk_ ro_ rc_ al_ b_ ka_ na_ jo_ me_ wo_ fd_ nr_ nc_ sc_ : Nat) (ar ac : Nat → Nat) (K : Nat) (n : Nat) (dn : Nat → Nat) (wn : Nat → Nat) (vn : Nat → Nat) (tk : Int64) (kn : Nat → Nat) (M : Nat → Nat → Nat) (C : Nat → Nat → Nat) (al : Nat → Nat) (kd : Nat → Nat) (me : Nat → Nat) (px : Nat) (pcs : Nat) (bt : Bst) (wo : Nat → Int64) (le : Int64) (F : Nat → Nat) (fc : Nat) (nr : Nat → Nat) (nc : Nat → Nat) (sc : Nat → Nat) (x y : Int32) (t : Int64) (hI : HI K n dn wn vn kn M C kd px pcs bt F fc nr nc) : Met l yX3_reference wsX3_reference rX3_reference (gP D (tyl cI cJ cG) [.ref h_, .int x, .int y, .long t] (hwW cI cJ cG R h_ c_ d_ w_ v_ t_ rk_ ro_ rc_ al_ b_ ka_ na_ jo_ me_ wo_ fd_ nr_ nc_ sc_ ar ac K n dn wn vn tk kn M C al kd me px pcs bt wo le F fc nr nc sc) sz) (gQi D (tyl cI cJ cG) (hwW cI cJ cG R h_ c_ d_ w_ v_ t_ rk_ ro_ rc_ al_ b_ ka_ na_ jo_ me_ wo_ fd_ nr_ nc_ sc_ ar ac K n dn wn vn tk kn M C al kd me px pcs bt wo le F fc nr nc sc) sz (fun r (u : (Nat → Nat) × Int64) => r = bI ((inB x 8 && inB y 256) && decide (tk < t)) ∧ u = refN x y t wn tk) (fun u => (hwW cI cJ cG R h_ c_ d_ w_ v_ t_ rk_ ro_ rc_ al_ b_ ka_ na_ jo_ me_ wo_ fd_ nr_ nc_ sc_ ar ac K n dn u.1 vn u.2 kn M C al kd me px pcs bt wo le F fc nr nc sc))) 0 0 (va_A (hwW cI cJ cG R h_ c_ d_ w_ v_ t_ rk_ ro_ rc_ al_ b_ ka_ na_ jo_ me_ wo_ fd_ nr_ nc_ sc_ ar ac K n dn wn vn tk kn M C al kd me px pcs bt wo le F fc nr nc sc) sz) := by
  refine gMet (cc := cX3_reference) (maxL := 5) (ret := (some .boolean)) (ls0 := [(0, .ref h_), (1, .int x), (2, .int y), (3, .long t)]) (by decide) rfl (Nat.le_of_ble_eq_true rfl) rfl ?_
  intro p e s m below meth c hx hb hr hts hown hlocks hml hname A hA hAe hsz Q hQe H locs hP hK hD hS ls hl
  have hown : s.vm.findClass RX3 = some m.cls := hown
  have in_X3 : ∀ w ∈ wsX30, w ∈ wsX3_reference := by decide +kernel
  have f_16 := hts (.fieldLink RX3 16 "SpectrumHeads" "channels" "LSpectrumHeads$Channels;") (by decide +kernel)
  refine lv_iload_n hx hb dX3_reference_0 rfl (lv_at hl 1 rfl) ?_
  refine gc_Si (As := [.int x]) (rest := []) ⟨hx, hb, hml, hown, hts⟩ (c_X3_isChannel l D cI cJ cG H.size _ x) (va_cwS 1 hts gX3_reference_X3_isChannel rfl rfl rfl (by decide +kernel) ⟨Nat.le_of_ble_eq_true rfl, Nat.le_of_ble_eq_true rfl⟩) hK hP hD hS hA rfl hl.1 rfl (Nat.le_of_ble_eq_true rfl) dX3_reference_1 ⟨Nat.le_of_ble_eq_true rfl, Nat.le_of_ble_eq_true rfl⟩ (fun r1 u1 H locs h1 hP hD hS => ?_)
  subst h1
  have hP : va_P D vwCl (hwW cI cJ cG R h_ c_ d_ w_ v_ t_ rk_ ro_ rc_ al_ b_ ka_ na_ jo_ me_ wo_ fd_ nr_ nc_ sc_ ar ac K n dn wn vn tk kn M C al kd me px pcs bt wo le F fc nr nc sc) H := hP
  have hD : va_D A (hwW cI cJ cG R h_ c_ d_ w_ v_ t_ rk_ ro_ rc_ al_ b_ ka_ na_ jo_ me_ wo_ fd_ nr_ nc_ sc_ ar ac K n dn wn vn tk kn M C al kd me px pcs bt wo le F fc nr nc sc) := hD
  refine lv_if_eq (tgt := 31) hx hb dX3_reference_4 (by decide) (fun c4 => ?_) (fun c4 => ?_)
  · skip
    have hB4 := bI_0.mp c4
    refine lv_iconst (v := 0) hx hb dX3_reference_31 (by decide) ?_
    subst hQe
    subst hAe
    subst hsz
    exact g_zret hx hb hr hlocks rfl (wn, tk) (by first | exact ⟨by rw [hB4]; rfl, refN_f1 hB4⟩ | exact ⟨by rw [hB11, Bool.and_false]; rfl, refN_f2 hB11⟩) hP hK hD hS dX3_reference_32
  · skip
    have hB4 := bI_n0.mp c4
    obtain ⟨a, ha_, rfl⟩ := inB_of hB4 (by omega)
    refine lv_iload_n hx hb dX3_reference_7 rfl (lv_at hl 2 rfl) ?_
    refine gc_Si (As := [.int y]) (rest := []) ⟨hx, hb, hml, hown, hts⟩ (c_X3_isByte l D cI cJ cG H.size _ y) (va_cwS 1 hts gX3_reference_X3_isByte rfl rfl rfl (by decide +kernel) ⟨Nat.le_of_ble_eq_true rfl, Nat.le_of_ble_eq_true rfl⟩) hK hP hD hS hA rfl hl.1 rfl (Nat.le_of_ble_eq_true rfl) dX3_reference_8 ⟨Nat.le_of_ble_eq_true rfl, Nat.le_of_ble_eq_true rfl⟩ (fun r8 u8 H locs h8 hP hD hS => ?_)
    subst h8
    have hP : va_P D vwCl (hwW cI cJ cG R h_ c_ d_ w_ v_ t_ rk_ ro_ rc_ al_ b_ ka_ na_ jo_ me_ wo_ fd_ nr_ nc_ sc_ ar ac K n dn wn vn tk kn M C al kd me px pcs bt wo le F fc nr nc sc) H := hP
    have hD : va_D A (hwW cI cJ cG R h_ c_ d_ w_ v_ t_ rk_ ro_ rc_ al_ b_ ka_ na_ jo_ me_ wo_ fd_ nr_ nc_ sc_ ar ac K n dn wn vn tk kn M C al kd me px pcs bt wo le F fc nr nc sc) := hD
    refine lv_if_eq (tgt := 31) hx hb dX3_reference_11 (by decide) (fun c11 => ?_) (fun c11 => ?_)
    · skip
      have hB11 := bI_0.mp c11
      refine lv_iconst (v := 0) hx hb dX3_reference_31 (by decide) ?_
      subst hQe
      subst hAe
      subst hsz
      exact g_zret hx hb hr hlocks rfl (wn, tk) (by first | exact ⟨by rw [hB4]; rfl, refN_f1 hB4⟩ | exact ⟨by rw [hB11, Bool.and_false]; rfl, refN_f2 hB11⟩) hP hK hD hS dX3_reference_32
    · skip
      have hB11 := bI_n0.mp c11
      obtain ⟨b, hb_, rfl⟩ := inB_of hB11 (by omega)
      refine lv_aload_n hx hb dX3_reference_14 rfl (lv_at hl 0 rfl) ?_
      refine va_get (D := D) (ci := 4) (v := .ref c_) (C := RX3) (T := TX3) (N := 11) hx hb hts in_X3 hown hK hP 0 rfl rfl 1 (by decide) f_16 (fun _ h9 => h9) rfl dX3_reference_15 ?_
      refine lv_iload_n hx hb dX3_reference_18 rfl (lv_at hl 1 rfl) ?_
      refine lv_iload_n hx hb dX3_reference_19 rfl (lv_at hl 2 rfl) ?_
      refine lv_lload_n hx hb dX3_reference_20 rfl (lv_at hl 3 rfl) ?_
      have hP := pm_1_2_3_4_0_5_6_7_8_9_10_11_12_13_14_15_16_17_18_19_P hP
      have hD := pm_1_2_3_4_0_5_6_7_8_9_10_11_12_13_14_15_16_17_18_19_D hD
      refine gc_Vi (As := [.int (nI a), .int (nI b), .long t]) (rest := []) (ci := 2) (q0 := 0) ⟨hx, hb, hml, hown, hts⟩ (c_X1_setWhiteAt l D cI cJ cG H.size _ c_ d_ w_ v_ dn wn vn tk a b t ha_) (cwV 3 hts gX3_reference_X1_setWhiteAt rfl rfl rfl (by decide +kernel) ⟨Nat.le_of_ble_eq_true rfl, Nat.le_of_ble_eq_true rfl⟩) rfl rfl rfl hK hP hD hS hA rfl hl.1 rfl (Nat.le_of_ble_eq_true rfl) dX3_reference_21 ⟨Nat.le_of_ble_eq_true rfl, Nat.le_of_ble_eq_true rfl⟩ (fun r21 u21 H locs h21 hP hD hS => ?_)
      obtain ⟨rfl, hu21⟩ := h21
      have hP := pm_4_0_1_2_3_5_6_7_8_9_10_11_12_13_14_15_16_17_18_19_P hP
      have hD := pm_4_0_1_2_3_5_6_7_8_9_10_11_12_13_14_15_16_17_18_19_D hD
      have hP : va_P D vwCl (hwW cI cJ cG R h_ c_ d_ w_ v_ t_ rk_ ro_ rc_ al_ b_ ka_ na_ jo_ me_ wo_ fd_ nr_ nc_ sc_ ar ac K n dn u21.1 vn u21.2 kn M C al kd me px pcs bt wo le F fc nr nc sc) H := hP
      have hD : va_D A (hwW cI cJ cG R h_ c_ d_ w_ v_ t_ rk_ ro_ rc_ al_ b_ ka_ na_ jo_ me_ wo_ fd_ nr_ nc_ sc_ ar ac K n dn u21.1 vn u21.2 kn M C al kd me px pcs bt wo le F fc nr nc sc) := hD
      refine lv_if_eq (tgt := 31) hx hb dX3_reference_24 (by decide) (fun c24 => ?_) (fun c24 => ?_)
      · skip
        have hB24 := bI_0.mp c24
        refine lv_iconst (v := 0) hx hb dX3_reference_31 (by decide) ?_
        subst hQe
        subst hAe
        subst hsz
        exact g_zret hx hb hr hlocks rfl u21 ⟨by rw [inB_nI ha_ (by omega), inB_nI hb_ (by omega), hB24]; rfl, by rw [hu21]; exact refN_t ha_ hb_⟩ hP hK hD hS dX3_reference_32
      · skip
        have hB24 := bI_n0.mp c24
        refine lv_iconst (v := 1) hx hb dX3_reference_27 (by decide) ?_
        refine lv_goto (tgt := 32) hx hb dX3_reference_28 (by decide) ?_
        subst hQe
        subst hAe
        subst hsz
        exact g_zret hx hb hr hlocks rfl u21 ⟨by rw [inB_nI ha_ (by omega), inB_nI hb_ (by omega), hB24]; rfl, by rw [hu21]; exact refN_t ha_ hb_⟩ hP hK hD hS dX3_reference_32
abbrev rX3_bound : Room := { frames := 0, cells := 0, slots := 0, locals := 0 }
set_option maxHeartbeats 4000000 in
set_option maxRecDepth 100000 in
theorem c_X3_bound (l : Launch) (D : va_G) (cI cJ cG : ClassId) (sz : Nat) (R : va_W) (h_ c_ d_ w_ v_ t_ rk_ ro_ rc_ al_ b_ ka_ na_ jo_ me_ wo_ fd_ nr_ nc_ sc_ : Nat) (ar ac : Nat → Nat) (K : Nat) (n : Nat) (dn : Nat → Nat) (wn : Nat → Nat) (vn : Nat → Nat) (tk : Int64) (kn : Nat → Nat) (M : Nat → Nat → Nat) (C : Nat → Nat → Nat) (al : Nat → Nat) (kd : Nat → Nat) (me : Nat → Nat) (px : Nat) (pcs : Nat) (bt : Bst) (wo : Nat → Int64) (le : Int64) (F : Nat → Nat) (fc : Nat) (nr : Nat → Nat) (nc : Nat → Nat) (sc : Nat → Nat) (x : Int64) : Met l yX3_bound wsX3_bound rX3_bound (gP D (tyl cI cJ cG) [.ref h_, .long x] (hwW cI cJ cG R h_ c_ d_ w_ v_ t_ rk_ ro_ rc_ al_ b_ ka_ na_ jo_ me_ wo_ fd_ nr_ nc_ sc_ ar ac K n dn wn vn tk kn M C al kd me px pcs bt wo le F fc nr nc sc) sz) (gQi D (tyl cI cJ cG) (hwW cI cJ cG R h_ c_ d_ w_ v_ t_ rk_ ro_ rc_ al_ b_ ka_ na_ jo_ me_ wo_ fd_ nr_ nc_ sc_ ar ac K n dn wn vn tk kn M C al kd me px pcs bt wo le F fc nr nc sc) sz (fun r (u : Int64) => r = bI (bdB x) ∧ u = if bdB x = true then x else le) (fun u => (hwW cI cJ cG R h_ c_ d_ w_ v_ t_ rk_ ro_ rc_ al_ b_ ka_ na_ jo_ me_ wo_ fd_ nr_ nc_ sc_ ar ac K n dn wn vn tk kn M C al kd me px pcs bt wo u F fc nr nc sc))) 0 0 (va_A (hwW cI cJ cG R h_ c_ d_ w_ v_ t_ rk_ ro_ rc_ al_ b_ ka_ na_ jo_ me_ wo_ fd_ nr_ nc_ sc_ ar ac K n dn wn vn tk kn M C al kd me px pcs bt wo le F fc nr nc sc) sz) := by
  refine gMet (cc := cX3_bound) (maxL := 3) (ret := (some .boolean)) (ls0 := [(0, .ref h_), (1, .long x)]) (by decide) rfl (Nat.le_of_ble_eq_true rfl) rfl ?_
  intro p e s m below meth c hx hb hr hts hown hlocks hml hname A hA hAe hsz Q hQe H locs hP hK hD hS ls hl
  have hown : s.vm.findClass RX3 = some m.cls := hown
  have in_X3 : ∀ w ∈ wsX30, w ∈ wsX3_bound := by decide +kernel
  have f_40 := hts (.fieldLink RX3 40 "SpectrumHeads" "least" "J") (by decide +kernel)
  refine lv_lload_n hx hb dX3_bound_0 rfl (lv_at hl 1 rfl) ?_
  refine lv_lconst (v := 0) hx hb dX3_bound_1 (by decide) ?_
  refine W.lcmp hx hb dX3_bound_2 ?_
  refine lv_if_lt (tgt := 14) hx hb dX3_bound_3 (by decide) (fun c3 => ?_) (fun c3 => ?_)
  · skip
    have hB := bdB_f1 ((lg_cmp_lt _ _).mp c3)
    refine lv_iconst (v := 0) hx hb dX3_bound_14 (by decide) ?_
    subst hQe
    subst hAe
    subst hsz
    exact g_zret hx hb hr hlocks rfl le ⟨by rw [hB]; rfl, by rw [hB]; rfl⟩ hP hK hD hS dX3_bound_15
  · skip
    have h3 : ¬ x < 0 := fun h => c3 ((lg_cmp_lt _ _).mpr h)
    refine lv_lload_n hx hb dX3_bound_6 rfl (lv_at hl 1 rfl) ?_
    refine lv_ldc2 (v := 10000) hx hb hown (hts (.constantLong RX3 108 (10000)) (by decide +kernel)) dX3_bound_7 ?_
    refine W.lcmp hx hb dX3_bound_10 ?_
    refine lv_if_le (tgt := 16) hx hb dX3_bound_11 (by decide) (fun c11 => ?_) (fun c11 => ?_)
    · skip
      have hB := bdB_t h3 ((lg_cmp_le _ _).mp c11)
      refine lv_aload_n hx hb dX3_bound_16 rfl (lv_at hl 0 rfl) ?_
      refine lv_lload_n hx hb dX3_bound_17 rfl (lv_at hl 1 rfl) ?_
      refine va_put (D := D) (ci := 4) (v := .long x) (ty := .long) (C := RX3) (T := TX3) (N := 11) hx hb hts in_X3 tyX3 tyX3_ok nmX3 hown hK hP hD hS 0 rfl rfl 5 (by decide) f_40 (fun _ h9 => h9) rfl (by decide +kernel) rfl rfl (Nat.le_of_ble_eq_true rfl) dX3_bound_18 (fun H locs hP hD hS => ?_)
      have hP : va_P D vwCl (hwW cI cJ cG R h_ c_ d_ w_ v_ t_ rk_ ro_ rc_ al_ b_ ka_ na_ jo_ me_ wo_ fd_ nr_ nc_ sc_ ar ac K n dn wn vn tk kn M C al kd me px pcs bt wo x F fc nr nc sc) H := hP
      have hD : va_D A (hwW cI cJ cG R h_ c_ d_ w_ v_ t_ rk_ ro_ rc_ al_ b_ ka_ na_ jo_ me_ wo_ fd_ nr_ nc_ sc_ ar ac K n dn wn vn tk kn M C al kd me px pcs bt wo x F fc nr nc sc) := hD
      refine lv_iconst (v := 1) hx hb dX3_bound_21 (by decide) ?_
      subst hQe
      subst hAe
      subst hsz
      exact g_zret hx hb hr hlocks rfl x ⟨by rw [hB]; rfl, by rw [hB]; rfl⟩ hP hK hD hS dX3_bound_22
    · skip
      have hB := bdB_f2 (fun h => c11 ((lg_cmp_le _ _).mpr h))
      refine lv_iconst (v := 0) hx hb dX3_bound_14 (by decide) ?_
      subst hQe
      subst hAe
      subst hsz
      exact g_zret hx hb hr hlocks rfl le ⟨by rw [hB]; rfl, by rw [hB]; rfl⟩ hP hK hD hS dX3_bound_15
abbrev rX3_worth : Room := { frames := 1, cells := 0, slots := 0, locals := 21 }
set_option maxHeartbeats 4000000 in
set_option maxRecDepth 100000 in
theorem c_X3_worth (l : Launch) (D : va_G) (cI cJ cG : ClassId) (sz : Nat) (R : va_W) (h_ c_ d_ w_ v_ t_ rk_ ro_ rc_ al_ b_ ka_ na_ jo_ me_ wo_ fd_ nr_ nc_ sc_ : Nat) (ar ac : Nat → Nat) (K : Nat) (n : Nat) (dn : Nat → Nat) (wn : Nat → Nat) (vn : Nat → Nat) (tk : Int64) (kn : Nat → Nat) (M : Nat → Nat → Nat) (C : Nat → Nat → Nat) (al : Nat → Nat) (kd : Nat → Nat) (me : Nat → Nat) (px : Nat) (pcs : Nat) (bt : Bst) (wo : Nat → Int64) (le : Int64) (F : Nat → Nat) (fc : Nat) (nr : Nat → Nat) (nc : Nat → Nat) (sc : Nat → Nat) (x : Int32) (y : Int64) (hI : HI K n dn wn vn kn M C kd px pcs bt F fc nr nc) : Met l yX3_worth wsX3_worth rX3_worth (gP D (tyl cI cJ cG) [.ref h_, .int x, .long y] (hwW cI cJ cG R h_ c_ d_ w_ v_ t_ rk_ ro_ rc_ al_ b_ ka_ na_ jo_ me_ wo_ fd_ nr_ nc_ sc_ ar ac K n dn wn vn tk kn M C al kd me px pcs bt wo le F fc nr nc sc) sz) (gQi D (tyl cI cJ cG) (hwW cI cJ cG R h_ c_ d_ w_ v_ t_ rk_ ro_ rc_ al_ b_ ka_ na_ jo_ me_ wo_ fd_ nr_ nc_ sc_ ar ac K n dn wn vn tk kn M C al kd me px pcs bt wo le F fc nr nc sc) sz (fun r (u : Nat → Int64) => r = bI (inB x K && wtB y) ∧ u = if (inB x K && wtB y) = true then vp_updL wo x.toNatClampNeg y else wo) (fun u => (hwW cI cJ cG R h_ c_ d_ w_ v_ t_ rk_ ro_ rc_ al_ b_ ka_ na_ jo_ me_ wo_ fd_ nr_ nc_ sc_ ar ac K n dn wn vn tk kn M C al kd me px pcs bt u le F fc nr nc sc))) 0 0 (va_A (hwW cI cJ cG R h_ c_ d_ w_ v_ t_ rk_ ro_ rc_ al_ b_ ka_ na_ jo_ me_ wo_ fd_ nr_ nc_ sc_ ar ac K n dn wn vn tk kn M C al kd me px pcs bt wo le F fc nr nc sc) sz) := by
  refine gMet (cc := cX3_worth) (maxL := 4) (ret := (some .boolean)) (ls0 := [(0, .ref h_), (1, .int x), (2, .long y)]) (by decide) rfl (Nat.le_of_ble_eq_true rfl) rfl ?_
  intro p e s m below meth c hx hb hr hts hown hlocks hml hname A hA hAe hsz Q hQe H locs hP hK hD hS ls hl
  have hown : s.vm.findClass RX3 = some m.cls := hown
  have in_X3 : ∀ w ∈ wsX30, w ∈ wsX3_worth := by decide +kernel
  have f_36 := hts (.fieldLink RX3 36 "SpectrumHeads" "worths" "[J") (by decide +kernel)
  obtain ⟨⟨hK1, hK4⟩, hn, ⟨hdn, hwn, hvn⟩, ⟨hkn, hM, hC⟩, ⟨hkd, hpx, hpcs, hbt⟩, ⟨hF, hfc⟩, ⟨hnr, hnc⟩⟩ := id hI
  refine lv_aload_n hx hb dX3_worth_0 rfl (lv_at hl 0 rfl) ?_
  refine lv_iload_n hx hb dX3_worth_1 rfl (lv_at hl 1 rfl) ?_
  refine gc_Vi (As := [.int x]) (rest := []) (ci := 4) (q0 := 0) ⟨hx, hb, hml, hown, hts⟩ (c_X3_isKind l D cI cJ cG H.size _ h_ c_ t_ b_ wo_ fd_ nr_ nc_ sc_ K fc le x hK4) (cwV 1 hts gX3_worth_X3_isKind rfl rfl rfl (by decide +kernel) ⟨Nat.le_of_ble_eq_true rfl, Nat.le_of_ble_eq_true rfl⟩) rfl rfl rfl hK hP hD hS hA rfl hl.1 rfl (Nat.le_of_ble_eq_true rfl) dX3_worth_2 ⟨Nat.le_of_ble_eq_true rfl, Nat.le_of_ble_eq_true rfl⟩ (fun r2 u2 H locs h2 hP hD hS => ?_)
  subst h2
  have hP : va_P D vwCl (hwW cI cJ cG R h_ c_ d_ w_ v_ t_ rk_ ro_ rc_ al_ b_ ka_ na_ jo_ me_ wo_ fd_ nr_ nc_ sc_ ar ac K n dn wn vn tk kn M C al kd me px pcs bt wo le F fc nr nc sc) H := hP
  have hD : va_D A (hwW cI cJ cG R h_ c_ d_ w_ v_ t_ rk_ ro_ rc_ al_ b_ ka_ na_ jo_ me_ wo_ fd_ nr_ nc_ sc_ ar ac K n dn wn vn tk kn M C al kd me px pcs bt wo le F fc nr nc sc) := hD
  refine lv_if_eq (tgt := 22) hx hb dX3_worth_5 (by decide) (fun c5 => ?_) (fun c5 => ?_)
  · skip
    have hB5 := bI_0.mp c5
    have hB : (inB x K && wtB y) = false := by rw [hB5]; rfl
    refine lv_iconst (v := 0) hx hb dX3_worth_22 (by decide) ?_
    subst hQe
    subst hAe
    subst hsz
    exact g_zret hx hb hr hlocks rfl wo ⟨by rw [hB]; rfl, by rw [hB]; rfl⟩ hP hK hD hS dX3_worth_23
  · skip
    have hB5 := bI_n0.mp c5
    refine lv_lload_n hx hb dX3_worth_8 rfl (lv_at hl 2 rfl) ?_
    refine lv_lconst (v := 0) hx hb dX3_worth_9 (by decide) ?_
    refine W.lcmp hx hb dX3_worth_10 ?_
    refine lv_if_lt (tgt := 22) hx hb dX3_worth_11 (by decide) (fun c11 => ?_) (fun c11 => ?_)
    · skip
      have hB : (inB x K && wtB y) = false := by rw [wtB_f1 ((lg_cmp_lt _ _).mp c11), Bool.and_false]
      refine lv_iconst (v := 0) hx hb dX3_worth_22 (by decide) ?_
      subst hQe
      subst hAe
      subst hsz
      exact g_zret hx hb hr hlocks rfl wo ⟨by rw [hB]; rfl, by rw [hB]; rfl⟩ hP hK hD hS dX3_worth_23
    · skip
      have h3 : ¬ y < 0 := fun h => c11 ((lg_cmp_lt _ _).mpr h)
      refine lv_lload_n hx hb dX3_worth_14 rfl (lv_at hl 2 rfl) ?_
      refine lv_ldc2 (v := 1000000) hx hb hown (hts (.constantLong RX3 110 (1000000)) (by decide +kernel)) dX3_worth_15 ?_
      refine W.lcmp hx hb dX3_worth_18 ?_
      refine lv_if_le (tgt := 24) hx hb dX3_worth_19 (by decide) (fun c19 => ?_) (fun c19 => ?_)
      · skip
        have hB : (inB x K && wtB y) = true := by rw [hB5, wtB_t h3 ((lg_cmp_le _ _).mp c19)]; rfl
        refine lv_aload_n hx hb dX3_worth_24 rfl (lv_at hl 0 rfl) ?_
        refine va_get (D := D) (ci := 4) (v := .ref wo_) (C := RX3) (T := TX3) (N := 11) hx hb hts in_X3 hown hK hP 0 rfl rfl 4 (by decide) f_36 (fun _ h9 => h9) rfl dX3_worth_25 ?_
        refine lv_iload_n hx hb dX3_worth_28 rfl (lv_at hl 1 rfl) ?_
        refine lv_lload_n hx hb dX3_worth_29 rfl (lv_at hl 2 rfl) ?_
        refine va_last hx hb hK hP hD hS 15 1 rfl rfl (inB_vp hB5) dX3_worth_30 (fun H locs hP hD hS => ?_)
        have hP : va_P D vwCl (hwW cI cJ cG R h_ c_ d_ w_ v_ t_ rk_ ro_ rc_ al_ b_ ka_ na_ jo_ me_ wo_ fd_ nr_ nc_ sc_ ar ac K n dn wn vn tk kn M C al kd me px pcs bt (vp_updL wo (x).toNatClampNeg y) le F fc nr nc sc) H := hP
        have hD : va_D A (hwW cI cJ cG R h_ c_ d_ w_ v_ t_ rk_ ro_ rc_ al_ b_ ka_ na_ jo_ me_ wo_ fd_ nr_ nc_ sc_ ar ac K n dn wn vn tk kn M C al kd me px pcs bt (vp_updL wo (x).toNatClampNeg y) le F fc nr nc sc) := hD
        refine lv_iconst (v := 1) hx hb dX3_worth_31 (by decide) ?_
        subst hQe
        subst hAe
        subst hsz
        exact g_zret hx hb hr hlocks rfl (vp_updL wo x.toNatClampNeg y) ⟨by rw [hB]; rfl, by rw [hB]; rfl⟩ hP hK hD hS dX3_worth_32
      · skip
        have hB : (inB x K && wtB y) = false := by rw [wtB_f2 (fun h => c19 ((lg_cmp_le _ _).mpr h)), Bool.and_false]
        refine lv_iconst (v := 0) hx hb dX3_worth_22 (by decide) ?_
        subst hQe
        subst hAe
        subst hsz
        exact g_zret hx hb hr hlocks rfl wo ⟨by rw [hB]; rfl, by rw [hB]; rfl⟩ hP hK hD hS dX3_worth_23
abbrev rX3_feed : Room := { frames := 1, cells := 0, slots := 0, locals := 20 }
set_option maxHeartbeats 4000000 in
set_option maxRecDepth 100000 in
theorem c_X3_feed (l : Launch) (D : va_G) (cI cJ cG : ClassId) (sz : Nat) (R : va_W) (h_ c_ d_ w_ v_ t_ rk_ ro_ rc_ al_ b_ ka_ na_ jo_ me_ wo_ fd_ nr_ nc_ sc_ : Nat) (ar ac : Nat → Nat) (K : Nat) (n : Nat) (dn : Nat → Nat) (wn : Nat → Nat) (vn : Nat → Nat) (tk : Int64) (kn : Nat → Nat) (M : Nat → Nat → Nat) (C : Nat → Nat → Nat) (al : Nat → Nat) (kd : Nat → Nat) (me : Nat → Nat) (px : Nat) (pcs : Nat) (bt : Bst) (wo : Nat → Int64) (le : Int64) (F : Nat → Nat) (fc : Nat) (nr : Nat → Nat) (nc : Nat → Nat) (sc : Nat → Nat) (x : Int32) (hI : HI K n dn wn vn kn M C kd px pcs bt F fc nr nc) : Met l yX3_feed wsX3_feed rX3_feed (gP D (tyl cI cJ cG) [.ref h_, .int x] (hwW cI cJ cG R h_ c_ d_ w_ v_ t_ rk_ ro_ rc_ al_ b_ ka_ na_ jo_ me_ wo_ fd_ nr_ nc_ sc_ ar ac K n dn wn vn tk kn M C al kd me px pcs bt wo le F fc nr nc sc) sz) (gQi D (tyl cI cJ cG) (hwW cI cJ cG R h_ c_ d_ w_ v_ t_ rk_ ro_ rc_ al_ b_ ka_ na_ jo_ me_ wo_ fd_ nr_ nc_ sc_ ar ac K n dn wn vn tk kn M C al kd me px pcs bt wo le F fc nr nc sc) sz (fun r (u : (Nat → Nat) × Nat) => r = bI (inB x 256 && decide (fc < 400)) ∧ u = if (inB x 256 && decide (fc < 400)) = true then (un F fc x.toNatClampNeg, fc + 1) else (F, fc)) (fun u => (hwW cI cJ cG R h_ c_ d_ w_ v_ t_ rk_ ro_ rc_ al_ b_ ka_ na_ jo_ me_ wo_ fd_ nr_ nc_ sc_ ar ac K n dn wn vn tk kn M C al kd me px pcs bt wo le u.1 u.2 nr nc sc))) 0 0 (va_A (hwW cI cJ cG R h_ c_ d_ w_ v_ t_ rk_ ro_ rc_ al_ b_ ka_ na_ jo_ me_ wo_ fd_ nr_ nc_ sc_ ar ac K n dn wn vn tk kn M C al kd me px pcs bt wo le F fc nr nc sc) sz) := by
  refine gMet (cc := cX3_feed) (maxL := 2) (ret := (some .boolean)) (ls0 := [(0, .ref h_), (1, .int x)]) (by decide) rfl (Nat.le_of_ble_eq_true rfl) rfl ?_
  intro p e s m below meth c hx hb hr hts hown hlocks hml hname A hA hAe hsz Q hQe H locs hP hK hD hS ls hl
  have hown : s.vm.findClass RX3 = some m.cls := hown
  have in_X3 : ∀ w ∈ wsX30, w ∈ wsX3_feed := by decide +kernel
  have f_48 := hts (.fieldLink RX3 48 "SpectrumHeads" "fedCount" "I") (by decide +kernel)
  have f_44 := hts (.fieldLink RX3 44 "SpectrumHeads" "fed" "[I") (by decide +kernel)
  obtain ⟨⟨hK1, hK4⟩, hn, ⟨hdn, hwn, hvn⟩, ⟨hkn, hM, hC⟩, ⟨hkd, hpx, hpcs, hbt⟩, ⟨hF, hfc⟩, ⟨hnr, hnc⟩⟩ := id hI
  refine lv_iload_n hx hb dX3_feed_0 rfl (lv_at hl 1 rfl) ?_
  refine gc_Si (As := [.int x]) (rest := []) ⟨hx, hb, hml, hown, hts⟩ (c_X3_isByte l D cI cJ cG H.size _ x) (va_cwS 1 hts gX3_feed_X3_isByte rfl rfl rfl (by decide +kernel) ⟨Nat.le_of_ble_eq_true rfl, Nat.le_of_ble_eq_true rfl⟩) hK hP hD hS hA rfl hl.1 rfl (Nat.le_of_ble_eq_true rfl) dX3_feed_1 ⟨Nat.le_of_ble_eq_true rfl, Nat.le_of_ble_eq_true rfl⟩ (fun r1 u1 H locs h1 hP hD hS => ?_)
  subst h1
  have hP : va_P D vwCl (hwW cI cJ cG R h_ c_ d_ w_ v_ t_ rk_ ro_ rc_ al_ b_ ka_ na_ jo_ me_ wo_ fd_ nr_ nc_ sc_ ar ac K n dn wn vn tk kn M C al kd me px pcs bt wo le F fc nr nc sc) H := hP
  have hD : va_D A (hwW cI cJ cG R h_ c_ d_ w_ v_ t_ rk_ ro_ rc_ al_ b_ ka_ na_ jo_ me_ wo_ fd_ nr_ nc_ sc_ ar ac K n dn wn vn tk kn M C al kd me px pcs bt wo le F fc nr nc sc) := hD
  refine lv_if_eq (tgt := 17) hx hb dX3_feed_4 (by decide) (fun c4 => ?_) (fun c4 => ?_)
  · skip
    have hB4 := bI_0.mp c4
    have hB : (inB x 256 && decide (fc < 400)) = false := by rw [hB4]; rfl
    refine lv_iconst (v := 0) hx hb dX3_feed_17 (by decide) ?_
    subst hQe
    subst hAe
    subst hsz
    exact g_zret hx hb hr hlocks rfl (F, fc) ⟨by rw [hB]; rfl, by rw [hB]; rfl⟩ hP hK hD hS dX3_feed_18
  · skip
    have hB4 := bI_n0.mp c4
    obtain ⟨a, ha_, rfl⟩ := inB_of hB4 (by omega)
    refine lv_aload_n hx hb dX3_feed_7 rfl (lv_at hl 0 rfl) ?_
    refine va_get (D := D) (ci := 4) (v := .int (nI fc)) (C := RX3) (T := TX3) (N := 11) hx hb hts in_X3 hown hK hP 0 rfl rfl 7 (by decide) f_48 (fun _ h9 => h9) rfl dX3_feed_8 ?_
    refine lv_sipush (v := 400) hx hb dX3_feed_11 (by decide) ?_
    refine lv_icmp_lt (tgt := 19) hx hb dX3_feed_14 (by decide) (fun c14 => ?_) (fun c14 => ?_)
    · skip
      have h14 : fc < 400 := (nI_ltI (b := 400) (by omega) (by omega)).mp c14
      have hB : (inB (nI a) 256 && decide (fc < 400)) = true := by rw [hB4, decide_eq_true h14]; rfl
      refine lv_aload_n hx hb dX3_feed_19 rfl (lv_at hl 0 rfl) ?_
      refine va_get (D := D) (ci := 4) (v := .ref fd_) (C := RX3) (T := TX3) (N := 11) hx hb hts in_X3 hown hK hP 0 rfl rfl 6 (by decide) f_44 (fun _ h9 => h9) rfl dX3_feed_20 ?_
      refine lv_aload_n hx hb dX3_feed_23 rfl (lv_at hl 0 rfl) ?_
      refine va_get (D := D) (ci := 4) (v := .int (nI fc)) (C := RX3) (T := TX3) (N := 11) hx hb hts in_X3 hown hK hP 0 rfl rfl 7 (by decide) f_48 (fun _ h9 => h9) rfl dX3_feed_24 ?_
      refine lv_iload_n hx hb dX3_feed_27 rfl (lv_at hl 1 rfl) ?_
      refine va_iast hx hb hK hP hD hS 16 0 rfl rfl (by first | exact vp_in_nI (by omega) (by omega) | assumption) dX3_feed_28 (fun H locs hP hD hS => ?_)
      rw [nI_clamp (by omega)] at hP hD
      have hP : va_P D vwCl ((h_, .inr (4, [.int (nI K), .ref c_, .ref t_, .ref b_, .ref wo_, .long le, .ref fd_, .int (nI fc), .ref nr_, .ref nc_, .ref sc_])) :: (c_, .inr (2, [.ref d_, .ref w_, .ref v_, .long tk])) :: (d_, .inl (cI, 8, .inl (nf dn))) :: (w_, .inl (cI, 8, .inl (nf wn))) :: (v_, .inl (cI, 8, .inl (nf vn))) :: (t_, .inr (3, [.int (nI K), .ref rk_, .ref ro_, .ref rc_, .ref al_, .int (nI n)])) :: (rk_, .inl (cI, 40, .inl (nf kn))) :: (ro_, .inl (cG, 40, .inr (.inr (.inr (.inr (og ar)))))) :: (rc_, .inl (cG, 40, .inr (.inr (.inr (.inr (og ac)))))) :: (al_, .inl (cI, 7, .inl (nf al))) :: (b_, .inr (1, [.ref ka_, .ref na_, .ref jo_, .ref me_, .int (nI bt.2.2), .int (nI px), .int (nI pcs)])) :: (ka_, .inl (cI, 256, .inl (k2 kd))) :: (na_, .inl (cI, 256, .inl (l1 bt.1))) :: (jo_, .inl (cI, 100, .inl (nf bt.2.1))) :: (me_, .inl (cI, 100, .inl (nf me))) :: (wo_, .inl (cJ, K, .inr (.inl wo))) :: (fd_, .inl (cI, 400, .inl (upd (nf F) fc (nI a)))) :: (nr_, .inl (cI, 8, .inl (nf nr))) :: (nc_, .inl (cI, 7, .inl (nf nc))) :: (sc_, .inl (cJ, K, .inr (.inl (lf sc)))) :: (pr cI ar M ++ (pq cI ac C ++ R))) H := hP
      have hD : va_D A ((h_, .inr (4, [.int (nI K), .ref c_, .ref t_, .ref b_, .ref wo_, .long le, .ref fd_, .int (nI fc), .ref nr_, .ref nc_, .ref sc_])) :: (c_, .inr (2, [.ref d_, .ref w_, .ref v_, .long tk])) :: (d_, .inl (cI, 8, .inl (nf dn))) :: (w_, .inl (cI, 8, .inl (nf wn))) :: (v_, .inl (cI, 8, .inl (nf vn))) :: (t_, .inr (3, [.int (nI K), .ref rk_, .ref ro_, .ref rc_, .ref al_, .int (nI n)])) :: (rk_, .inl (cI, 40, .inl (nf kn))) :: (ro_, .inl (cG, 40, .inr (.inr (.inr (.inr (og ar)))))) :: (rc_, .inl (cG, 40, .inr (.inr (.inr (.inr (og ac)))))) :: (al_, .inl (cI, 7, .inl (nf al))) :: (b_, .inr (1, [.ref ka_, .ref na_, .ref jo_, .ref me_, .int (nI bt.2.2), .int (nI px), .int (nI pcs)])) :: (ka_, .inl (cI, 256, .inl (k2 kd))) :: (na_, .inl (cI, 256, .inl (l1 bt.1))) :: (jo_, .inl (cI, 100, .inl (nf bt.2.1))) :: (me_, .inl (cI, 100, .inl (nf me))) :: (wo_, .inl (cJ, K, .inr (.inl wo))) :: (fd_, .inl (cI, 400, .inl (upd (nf F) fc (nI a)))) :: (nr_, .inl (cI, 8, .inl (nf nr))) :: (nc_, .inl (cI, 7, .inl (nf nc))) :: (sc_, .inl (cJ, K, .inr (.inl (lf sc)))) :: (pr cI ar M ++ (pq cI ac C ++ R))) := hD
      have hW_ : upd (nf F) fc (nI a) = nf (un F fc a) := by exact nf_upd _ _ _
      rw [hW_] at hP hD
      have hP : va_P D vwCl (hwW cI cJ cG R h_ c_ d_ w_ v_ t_ rk_ ro_ rc_ al_ b_ ka_ na_ jo_ me_ wo_ fd_ nr_ nc_ sc_ ar ac K n dn wn vn tk kn M C al kd me px pcs bt wo le (un F fc a) fc nr nc sc) H := hP
      have hD : va_D A (hwW cI cJ cG R h_ c_ d_ w_ v_ t_ rk_ ro_ rc_ al_ b_ ka_ na_ jo_ me_ wo_ fd_ nr_ nc_ sc_ ar ac K n dn wn vn tk kn M C al kd me px pcs bt wo le (un F fc a) fc nr nc sc) := hD
      refine lv_aload_n hx hb dX3_feed_29 rfl (lv_at hl 0 rfl) ?_
      refine lv_dup hx hb dX3_feed_30 rfl ?_
      refine va_get (D := D) (ci := 4) (v := .int (nI fc)) (C := RX3) (T := TX3) (N := 11) hx hb hts in_X3 hown hK hP 0 rfl rfl 7 (by decide) f_48 (fun _ h9 => h9) rfl dX3_feed_31 ?_
      refine lv_iconst (v := 1) hx hb dX3_feed_34 (by decide) ?_
      refine lv_iadd hx hb dX3_feed_35 ?_
      refine lv_topi (fun x35 ex35 => ?_)
      obtain rfl : x35 = nI (fc + 1) := by rw [ex35]; exact nI_1 _
      refine va_put (D := D) (ci := 4) (v := .int (nI (fc + 1))) (ty := .int) (C := RX3) (T := TX3) (N := 11) hx hb hts in_X3 tyX3 tyX3_ok nmX3 hown hK hP hD hS 0 rfl rfl 7 (by decide) f_48 (fun _ h9 => h9) rfl (by decide +kernel) rfl rfl (Nat.le_of_ble_eq_true rfl) dX3_feed_36 (fun H locs hP hD hS => ?_)
      have hP : va_P D vwCl (hwW cI cJ cG R h_ c_ d_ w_ v_ t_ rk_ ro_ rc_ al_ b_ ka_ na_ jo_ me_ wo_ fd_ nr_ nc_ sc_ ar ac K n dn wn vn tk kn M C al kd me px pcs bt wo le (un F fc a) (fc + 1) nr nc sc) H := hP
      have hD : va_D A (hwW cI cJ cG R h_ c_ d_ w_ v_ t_ rk_ ro_ rc_ al_ b_ ka_ na_ jo_ me_ wo_ fd_ nr_ nc_ sc_ ar ac K n dn wn vn tk kn M C al kd me px pcs bt wo le (un F fc a) (fc + 1) nr nc sc) := hD
      refine lv_iconst (v := 1) hx hb dX3_feed_39 (by decide) ?_
      subst hQe
      subst hAe
      subst hsz
      exact g_zret hx hb hr hlocks rfl (un F fc a, fc + 1) ⟨by rw [hB]; rfl, by rw [hB, nI_clamp (by omega)]; rfl⟩ hP hK hD hS dX3_feed_40
    · skip
      have hB : (inB (nI a) 256 && decide (fc < 400)) = false := by rw [decide_eq_false (mt (nI_ltI (b := 400) (by omega) (by omega)).mpr c14), Bool.and_false]
      refine lv_iconst (v := 0) hx hb dX3_feed_17 (by decide) ?_
      subst hQe
      subst hAe
      subst hsz
      exact g_zret hx hb hr hlocks rfl (F, fc) ⟨by rw [hB]; rfl, by rw [hB]; rfl⟩ hP hK hD hS dX3_feed_18
theorem sw_5_6_7_8_9_of_20_P {D : va_G} {cl : List vw_C} {H : Heap} {x0 x1 x2 x3 x4 x5 x6 x7 x8 x9 x10 x11 x12 x13 x14 x15 x16 x17 x18 x19 : Nat × va_E} {p q R : va_W} (h : va_P D cl (x0 :: x1 :: x2 :: x3 :: x4 :: x5 :: x6 :: x7 :: x8 :: x9 :: x10 :: x11 :: x12 :: x13 :: x14 :: x15 :: x16 :: x17 :: x18 :: x19 :: (p ++ (q ++ R))) H) : va_P D cl (x5 :: x6 :: x7 :: x8 :: x9 :: (p ++ (q ++ (R ++ [x0, x1, x2, x3, x4, x10, x11, x12, x13, x14, x15, x16, x17, x18, x19])))) H := sw_P (Xt := [x5, x6, x7, x8, x9]) (Xo := [x0, x1, x2, x3, x4, x10, x11, x12, x13, x14, x15, x16, x17, x18, x19]) (va_P.part (X := [x0, x1, x2, x3, x4, x5, x6, x7, x8, x9, x10, x11, x12, x13, x14, x15, x16, x17, x18, x19]) (pl := p ++ (q ++ R)) (cx := [x5, x6, x7, x8, x9, x0, x1, x2, x3, x4, x10, x11, x12, x13, x14, x15, x16, x17, x18, x19]) h [5, 6, 7, 8, 9, 0, 1, 2, 3, 4, 10, 11, 12, 13, 14, 15, 16, 17, 18, 19] rfl)
theorem sw_5_6_7_8_9_of_20_D {A : Nat → Prop} {x0 x1 x2 x3 x4 x5 x6 x7 x8 x9 x10 x11 x12 x13 x14 x15 x16 x17 x18 x19 : Nat × va_E} {p q R : va_W} (h : va_D A (x0 :: x1 :: x2 :: x3 :: x4 :: x5 :: x6 :: x7 :: x8 :: x9 :: x10 :: x11 :: x12 :: x13 :: x14 :: x15 :: x16 :: x17 :: x18 :: x19 :: (p ++ (q ++ R)))) : va_D A (x5 :: x6 :: x7 :: x8 :: x9 :: (p ++ (q ++ (R ++ [x0, x1, x2, x3, x4, x10, x11, x12, x13, x14, x15, x16, x17, x18, x19])))) := sw_D (Xt := [x5, x6, x7, x8, x9]) (Xo := [x0, x1, x2, x3, x4, x10, x11, x12, x13, x14, x15, x16, x17, x18, x19]) (va_D.part (X := [x0, x1, x2, x3, x4, x5, x6, x7, x8, x9, x10, x11, x12, x13, x14, x15, x16, x17, x18, x19]) (pl := p ++ (q ++ R)) (cx := [x5, x6, x7, x8, x9, x0, x1, x2, x3, x4, x10, x11, x12, x13, x14, x15, x16, x17, x18, x19]) h [5, 6, 7, 8, 9, 0, 1, 2, 3, 4, 10, 11, 12, 13, 14, 15, 16, 17, 18, 19] (by decide) rfl)
theorem sw_5_6_7_8_9_of_20_Pb {D : va_G} {cl : List vw_C} {H : Heap} {x0 x1 x2 x3 x4 x5 x6 x7 x8 x9 x10 x11 x12 x13 x14 x15 x16 x17 x18 x19 : Nat × va_E} {p q R : va_W} (h : va_P D cl (x5 :: x6 :: x7 :: x8 :: x9 :: (p ++ (q ++ (R ++ [x0, x1, x2, x3, x4, x10, x11, x12, x13, x14, x15, x16, x17, x18, x19])))) H) : va_P D cl (x0 :: x1 :: x2 :: x3 :: x4 :: x5 :: x6 :: x7 :: x8 :: x9 :: x10 :: x11 :: x12 :: x13 :: x14 :: x15 :: x16 :: x17 :: x18 :: x19 :: (p ++ (q ++ R))) H := va_P.part (X := [x5, x6, x7, x8, x9, x0, x1, x2, x3, x4, x10, x11, x12, x13, x14, x15, x16, x17, x18, x19]) (pl := p ++ (q ++ R)) (cx := [x0, x1, x2, x3, x4, x5, x6, x7, x8, x9, x10, x11, x12, x13, x14, x15, x16, x17, x18, x19]) (ws_P (Xt := [x5, x6, x7, x8, x9]) (Xo := [x0, x1, x2, x3, x4, x10, x11, x12, x13, x14, x15, x16, x17, x18, x19]) h) [5, 6, 7, 8, 9, 0, 1, 2, 3, 4, 10, 11, 12, 13, 14, 15, 16, 17, 18, 19] rfl
theorem sw_5_6_7_8_9_of_20_Db {A : Nat → Prop} {x0 x1 x2 x3 x4 x5 x6 x7 x8 x9 x10 x11 x12 x13 x14 x15 x16 x17 x18 x19 : Nat × va_E} {p q R : va_W} (h : va_D A (x5 :: x6 :: x7 :: x8 :: x9 :: (p ++ (q ++ (R ++ [x0, x1, x2, x3, x4, x10, x11, x12, x13, x14, x15, x16, x17, x18, x19]))))) : va_D A (x0 :: x1 :: x2 :: x3 :: x4 :: x5 :: x6 :: x7 :: x8 :: x9 :: x10 :: x11 :: x12 :: x13 :: x14 :: x15 :: x16 :: x17 :: x18 :: x19 :: (p ++ (q ++ R))) := va_D.part (X := [x5, x6, x7, x8, x9, x0, x1, x2, x3, x4, x10, x11, x12, x13, x14, x15, x16, x17, x18, x19]) (pl := p ++ (q ++ R)) (cx := [x0, x1, x2, x3, x4, x5, x6, x7, x8, x9, x10, x11, x12, x13, x14, x15, x16, x17, x18, x19]) (ws_D (Xt := [x5, x6, x7, x8, x9]) (Xo := [x0, x1, x2, x3, x4, x10, x11, x12, x13, x14, x15, x16, x17, x18, x19]) h) [5, 6, 7, 8, 9, 0, 1, 2, 3, 4, 10, 11, 12, 13, 14, 15, 16, 17, 18, 19] (by decide) rfl
abbrev rX3_pack : Room := { frames := 3, cells := 0, slots := 0, locals := 68 }
set_option maxHeartbeats 4000000 in
set_option maxRecDepth 100000 in
theorem c_X3_pack (l : Launch) (D : va_G) (cI cJ cG : ClassId) (sz : Nat) (R : va_W) (h_ c_ d_ w_ v_ t_ rk_ ro_ rc_ al_ b_ ka_ na_ jo_ me_ wo_ fd_ nr_ nc_ sc_ : Nat) (ar ac : Nat → Nat) (K : Nat) (n : Nat) (dn : Nat → Nat) (wn : Nat → Nat) (vn : Nat → Nat) (tk : Int64) (kn : Nat → Nat) (M : Nat → Nat → Nat) (C : Nat → Nat → Nat) (al : Nat → Nat) (kd : Nat → Nat) (me : Nat → Nat) (px : Nat) (pcs : Nat) (bt : Bst) (wo : Nat → Int64) (le : Int64) (F : Nat → Nat) (fc : Nat) (nr : Nat → Nat) (nc : Nat → Nat) (sc : Nat → Nat) (x : Int32) (hI : HI K n dn wn vn kn M C kd px pcs bt F fc nr nc) : Met l yX3_pack wsX3_pack rX3_pack (gP D (tyl cI cJ cG) [.ref h_, .int x] (hwW cI cJ cG R h_ c_ d_ w_ v_ t_ rk_ ro_ rc_ al_ b_ ka_ na_ jo_ me_ wo_ fd_ nr_ nc_ sc_ ar ac K n dn wn vn tk kn M C al kd me px pcs bt wo le F fc nr nc sc) sz) (gQi D (tyl cI cJ cG) (hwW cI cJ cG R h_ c_ d_ w_ v_ t_ rk_ ro_ rc_ al_ b_ ka_ na_ jo_ me_ wo_ fd_ nr_ nc_ sc_ ar ac K n dn wn vn tk kn M C al kd me px pcs bt wo le F fc nr nc sc) sz (fun r (_ : Unit) => r = pkN K n kn M x) (fun _ => (hwW cI cJ cG R h_ c_ d_ w_ v_ t_ rk_ ro_ rc_ al_ b_ ka_ na_ jo_ me_ wo_ fd_ nr_ nc_ sc_ ar ac K n dn wn vn tk kn M C al kd me px pcs bt wo le F fc nr nc sc))) 0 0 (va_A (hwW cI cJ cG R h_ c_ d_ w_ v_ t_ rk_ ro_ rc_ al_ b_ ka_ na_ jo_ me_ wo_ fd_ nr_ nc_ sc_ ar ac K n dn wn vn tk kn M C al kd me px pcs bt wo le F fc nr nc sc) sz) := by
  refine gMet (cc := cX3_pack) (maxL := 2) (ret := (some .int)) (ls0 := [(0, .ref h_), (1, .int x)]) (by decide) rfl (Nat.le_of_ble_eq_true rfl) rfl ?_
  intro p e s m below meth c hx hb hr hts hown hlocks hml hname A hA hAe hsz Q hQe H locs hP hK hD hS ls hl
  have hown : s.vm.findClass RX3 = some m.cls := hown
  have in_X3 : ∀ w ∈ wsX30, w ∈ wsX3_pack := by decide +kernel
  have f_25 := hts (.fieldLink RX3 25 "SpectrumHeads" "table" "LSpectrumHeads$Table;") (by decide +kernel)
  obtain ⟨⟨hK1, hK4⟩, hn, ⟨hdn, hwn, hvn⟩, ⟨hkn, hM, hC⟩, ⟨hkd, hpx, hpcs, hbt⟩, ⟨hF, hfc⟩, ⟨hnr, hnc⟩⟩ := id hI
  refine lv_aload_n hx hb dX3_pack_0 rfl (lv_at hl 0 rfl) ?_
  refine va_get (D := D) (ci := 4) (v := .ref t_) (C := RX3) (T := TX3) (N := 11) hx hb hts in_X3 hown hK hP 0 rfl rfl 2 (by decide) f_25 (fun _ h9 => h9) rfl dX3_pack_1 ?_
  refine lv_iload_n hx hb dX3_pack_4 rfl (lv_at hl 1 rfl) ?_
  have hP := sw_5_6_7_8_9_of_20_P hP
  have hD := sw_5_6_7_8_9_of_20_D hD
  refine gc_Vi (As := [.int x]) (rest := []) (ci := 3) (q0 := 0) ⟨hx, hb, hml, hown, hts⟩ (c_X2_packedByte l D cI cJ cG H.size _ t_ rk_ ro_ rc_ al_ ar ac K n kn M C al x hn (by omega) hkn hM) (cwV 1 hts gX3_pack_X2_packedByte rfl rfl rfl (by decide +kernel) ⟨Nat.le_of_ble_eq_true rfl, Nat.le_of_ble_eq_true rfl⟩) rfl rfl rfl hK hP hD hS hA rfl hl.1 rfl (Nat.le_of_ble_eq_true rfl) dX3_pack_5 ⟨Nat.le_of_ble_eq_true rfl, Nat.le_of_ble_eq_true rfl⟩ (fun r5 u5 H locs h5 hP hD hS => ?_)
  subst h5
  have hP := sw_5_6_7_8_9_of_20_Pb hP
  have hD := sw_5_6_7_8_9_of_20_Db hD
  have hP : va_P D vwCl (hwW cI cJ cG R h_ c_ d_ w_ v_ t_ rk_ ro_ rc_ al_ b_ ka_ na_ jo_ me_ wo_ fd_ nr_ nc_ sc_ ar ac K n dn wn vn tk kn M C al kd me px pcs bt wo le F fc nr nc sc) H := hP
  have hD : va_D A (hwW cI cJ cG R h_ c_ d_ w_ v_ t_ rk_ ro_ rc_ al_ b_ ka_ na_ jo_ me_ wo_ fd_ nr_ nc_ sc_ ar ac K n dn wn vn tk kn M C al kd me px pcs bt wo le F fc nr nc sc) := hD
  subst hQe
  subst hAe
  subst hsz
  exact g_iret hx hb hr hlocks () rfl hP hK hD hS dX3_pack_8
theorem pm_10_11_12_13_14_0_1_2_3_4_5_6_7_8_9_15_16_17_18_19_P {D : va_G} {cl : List vw_C} {H : Heap} {x0 x1 x2 x3 x4 x5 x6 x7 x8 x9 x10 x11 x12 x13 x14 x15 x16 x17 x18 x19 : Nat × va_E} {T : va_W} (h : va_P D cl (x0 :: x1 :: x2 :: x3 :: x4 :: x5 :: x6 :: x7 :: x8 :: x9 :: x10 :: x11 :: x12 :: x13 :: x14 :: x15 :: x16 :: x17 :: x18 :: x19 :: T) H) : va_P D cl (x10 :: x11 :: x12 :: x13 :: x14 :: x0 :: x1 :: x2 :: x3 :: x4 :: x5 :: x6 :: x7 :: x8 :: x9 :: x15 :: x16 :: x17 :: x18 :: x19 :: T) H := va_P.part (X := [x0, x1, x2, x3, x4, x5, x6, x7, x8, x9, x10, x11, x12, x13, x14, x15, x16, x17, x18, x19]) (pl := T) (cx := [x10, x11, x12, x13, x14, x0, x1, x2, x3, x4, x5, x6, x7, x8, x9, x15, x16, x17, x18, x19]) h [10, 11, 12, 13, 14, 0, 1, 2, 3, 4, 5, 6, 7, 8, 9, 15, 16, 17, 18, 19] rfl
theorem pm_10_11_12_13_14_0_1_2_3_4_5_6_7_8_9_15_16_17_18_19_D {A : Nat → Prop} {x0 x1 x2 x3 x4 x5 x6 x7 x8 x9 x10 x11 x12 x13 x14 x15 x16 x17 x18 x19 : Nat × va_E} {T : va_W} (h : va_D A (x0 :: x1 :: x2 :: x3 :: x4 :: x5 :: x6 :: x7 :: x8 :: x9 :: x10 :: x11 :: x12 :: x13 :: x14 :: x15 :: x16 :: x17 :: x18 :: x19 :: T)) : va_D A (x10 :: x11 :: x12 :: x13 :: x14 :: x0 :: x1 :: x2 :: x3 :: x4 :: x5 :: x6 :: x7 :: x8 :: x9 :: x15 :: x16 :: x17 :: x18 :: x19 :: T) := va_D.part (X := [x0, x1, x2, x3, x4, x5, x6, x7, x8, x9, x10, x11, x12, x13, x14, x15, x16, x17, x18, x19]) (pl := T) (cx := [x10, x11, x12, x13, x14, x0, x1, x2, x3, x4, x5, x6, x7, x8, x9, x15, x16, x17, x18, x19]) h [10, 11, 12, 13, 14, 0, 1, 2, 3, 4, 5, 6, 7, 8, 9, 15, 16, 17, 18, 19] (by decide) rfl
theorem pm_5_6_7_8_9_10_11_12_13_14_0_1_2_3_4_15_16_17_18_19_P {D : va_G} {cl : List vw_C} {H : Heap} {x0 x1 x2 x3 x4 x5 x6 x7 x8 x9 x10 x11 x12 x13 x14 x15 x16 x17 x18 x19 : Nat × va_E} {T : va_W} (h : va_P D cl (x0 :: x1 :: x2 :: x3 :: x4 :: x5 :: x6 :: x7 :: x8 :: x9 :: x10 :: x11 :: x12 :: x13 :: x14 :: x15 :: x16 :: x17 :: x18 :: x19 :: T) H) : va_P D cl (x5 :: x6 :: x7 :: x8 :: x9 :: x10 :: x11 :: x12 :: x13 :: x14 :: x0 :: x1 :: x2 :: x3 :: x4 :: x15 :: x16 :: x17 :: x18 :: x19 :: T) H := va_P.part (X := [x0, x1, x2, x3, x4, x5, x6, x7, x8, x9, x10, x11, x12, x13, x14, x15, x16, x17, x18, x19]) (pl := T) (cx := [x5, x6, x7, x8, x9, x10, x11, x12, x13, x14, x0, x1, x2, x3, x4, x15, x16, x17, x18, x19]) h [5, 6, 7, 8, 9, 10, 11, 12, 13, 14, 0, 1, 2, 3, 4, 15, 16, 17, 18, 19] rfl
theorem pm_5_6_7_8_9_10_11_12_13_14_0_1_2_3_4_15_16_17_18_19_D {A : Nat → Prop} {x0 x1 x2 x3 x4 x5 x6 x7 x8 x9 x10 x11 x12 x13 x14 x15 x16 x17 x18 x19 : Nat × va_E} {T : va_W} (h : va_D A (x0 :: x1 :: x2 :: x3 :: x4 :: x5 :: x6 :: x7 :: x8 :: x9 :: x10 :: x11 :: x12 :: x13 :: x14 :: x15 :: x16 :: x17 :: x18 :: x19 :: T)) : va_D A (x5 :: x6 :: x7 :: x8 :: x9 :: x10 :: x11 :: x12 :: x13 :: x14 :: x0 :: x1 :: x2 :: x3 :: x4 :: x15 :: x16 :: x17 :: x18 :: x19 :: T) := va_D.part (X := [x0, x1, x2, x3, x4, x5, x6, x7, x8, x9, x10, x11, x12, x13, x14, x15, x16, x17, x18, x19]) (pl := T) (cx := [x5, x6, x7, x8, x9, x10, x11, x12, x13, x14, x0, x1, x2, x3, x4, x15, x16, x17, x18, x19]) h [5, 6, 7, 8, 9, 10, 11, 12, 13, 14, 0, 1, 2, 3, 4, 15, 16, 17, 18, 19] (by decide) rfl
abbrev rX3_piece : Room := { frames := 2, cells := 0, slots := 0, locals := 43 }
set_option maxHeartbeats 4000000 in
set_option maxRecDepth 100000 in
theorem c_X3_piece (l : Launch) (D : va_G) (cI cJ cG : ClassId) (sz : Nat) (R : va_W) (h_ c_ d_ w_ v_ t_ rk_ ro_ rc_ al_ b_ ka_ na_ jo_ me_ wo_ fd_ nr_ nc_ sc_ : Nat) (ar ac : Nat → Nat) (K : Nat) (n : Nat) (dn : Nat → Nat) (wn : Nat → Nat) (vn : Nat → Nat) (tk : Int64) (kn : Nat → Nat) (M : Nat → Nat → Nat) (C : Nat → Nat → Nat) (al : Nat → Nat) (kd : Nat → Nat) (me : Nat → Nat) (px : Nat) (pcs : Nat) (bt : Bst) (wo : Nat → Int64) (le : Int64) (F : Nat → Nat) (fc : Nat) (nr : Nat → Nat) (nc : Nat → Nat) (sc : Nat → Nat) (x y : Int32) : Met l yX3_piece wsX3_piece rX3_piece (gP D (tyl cI cJ cG) [.ref h_, .int x, .int y] (hwW cI cJ cG R h_ c_ d_ w_ v_ t_ rk_ ro_ rc_ al_ b_ ka_ na_ jo_ me_ wo_ fd_ nr_ nc_ sc_ ar ac K n dn wn vn tk kn M C al kd me px pcs bt wo le F fc nr nc sc) sz) (gQi D (tyl cI cJ cG) (hwW cI cJ cG R h_ c_ d_ w_ v_ t_ rk_ ro_ rc_ al_ b_ ka_ na_ jo_ me_ wo_ fd_ nr_ nc_ sc_ ar ac K n dn wn vn tk kn M C al kd me px pcs bt wo le F fc nr nc sc) sz (fun r (_ : Unit) => r = paN bt.1 x y) (fun _ => (hwW cI cJ cG R h_ c_ d_ w_ v_ t_ rk_ ro_ rc_ al_ b_ ka_ na_ jo_ me_ wo_ fd_ nr_ nc_ sc_ ar ac K n dn wn vn tk kn M C al kd me px pcs bt wo le F fc nr nc sc))) 0 0 (va_A (hwW cI cJ cG R h_ c_ d_ w_ v_ t_ rk_ ro_ rc_ al_ b_ ka_ na_ jo_ me_ wo_ fd_ nr_ nc_ sc_ ar ac K n dn wn vn tk kn M C al kd me px pcs bt wo le F fc nr nc sc) sz) := by
  refine gMet (cc := cX3_piece) (maxL := 3) (ret := (some .int)) (ls0 := [(0, .ref h_), (1, .int x), (2, .int y)]) (by decide) rfl (Nat.le_of_ble_eq_true rfl) rfl ?_
  intro p e s m below meth c hx hb hr hts hown hlocks hml hname A hA hAe hsz Q hQe H locs hP hK hD hS ls hl
  have hown : s.vm.findClass RX3 = some m.cls := hown
  have in_X3 : ∀ w ∈ wsX30, w ∈ wsX3_piece := by decide +kernel
  have f_32 := hts (.fieldLink RX3 32 "SpectrumHeads" "belt" "LSpectrumHeads$Belt;") (by decide +kernel)
  refine lv_aload_n hx hb dX3_piece_0 rfl (lv_at hl 0 rfl) ?_
  refine va_get (D := D) (ci := 4) (v := .ref b_) (C := RX3) (T := TX3) (N := 11) hx hb hts in_X3 hown hK hP 0 rfl rfl 3 (by decide) f_32 (fun _ h9 => h9) rfl dX3_piece_1 ?_
  refine lv_iload_n hx hb dX3_piece_4 rfl (lv_at hl 1 rfl) ?_
  refine lv_iload_n hx hb dX3_piece_5 rfl (lv_at hl 2 rfl) ?_
  have hP := pm_10_11_12_13_14_0_1_2_3_4_5_6_7_8_9_15_16_17_18_19_P hP
  have hD := pm_10_11_12_13_14_0_1_2_3_4_5_6_7_8_9_15_16_17_18_19_D hD
  refine gc_Vi (As := [.int x, .int y]) (rest := []) (ci := 1) (q0 := 0) ⟨hx, hb, hml, hown, hts⟩ (c_X0_pieceAt l D cI cJ cG H.size _ b_ ka_ na_ jo_ me_ kd me px pcs bt x y) (cwV 2 hts gX3_piece_X0_pieceAt rfl rfl rfl (by decide +kernel) ⟨Nat.le_of_ble_eq_true rfl, Nat.le_of_ble_eq_true rfl⟩) rfl rfl rfl hK hP hD hS hA rfl hl.1 rfl (Nat.le_of_ble_eq_true rfl) dX3_piece_6 ⟨Nat.le_of_ble_eq_true rfl, Nat.le_of_ble_eq_true rfl⟩ (fun r6 u6 H locs h6 hP hD hS => ?_)
  subst h6
  have hP := pm_5_6_7_8_9_10_11_12_13_14_0_1_2_3_4_15_16_17_18_19_P hP
  have hD := pm_5_6_7_8_9_10_11_12_13_14_0_1_2_3_4_15_16_17_18_19_D hD
  have hP : va_P D vwCl (hwW cI cJ cG R h_ c_ d_ w_ v_ t_ rk_ ro_ rc_ al_ b_ ka_ na_ jo_ me_ wo_ fd_ nr_ nc_ sc_ ar ac K n dn wn vn tk kn M C al kd me px pcs bt wo le F fc nr nc sc) H := hP
  have hD : va_D A (hwW cI cJ cG R h_ c_ d_ w_ v_ t_ rk_ ro_ rc_ al_ b_ ka_ na_ jo_ me_ wo_ fd_ nr_ nc_ sc_ ar ac K n dn wn vn tk kn M C al kd me px pcs bt wo le F fc nr nc sc) := hD
  subst hQe
  subst hAe
  subst hsz
  exact g_iret hx hb hr hlocks () rfl hP hK hD hS dX3_piece_9
abbrev rX3_neighbours : Room := { frames := 4, cells := 0, slots := 0, locals := 91 }
set_option maxHeartbeats 4000000 in
set_option maxRecDepth 100000 in
theorem c_X3_neighbours (l : Launch) (D : va_G) (cI cJ cG : ClassId) (sz : Nat) (R : va_W) (h_ c_ d_ w_ v_ t_ rk_ ro_ rc_ al_ b_ ka_ na_ jo_ me_ wo_ fd_ nr_ nc_ sc_ : Nat) (ar ac : Nat → Nat) (K : Nat) (n : Nat) (dn : Nat → Nat) (wn : Nat → Nat) (vn : Nat → Nat) (tk : Int64) (kn : Nat → Nat) (M : Nat → Nat → Nat) (C : Nat → Nat → Nat) (al : Nat → Nat) (kd : Nat → Nat) (me : Nat → Nat) (px : Nat) (pcs : Nat) (bt : Bst) (wo : Nat → Int64) (le : Int64) (F : Nat → Nat) (fc : Nat) (nr : Nat → Nat) (nc : Nat → Nat) (sc : Nat → Nat) (x : Int32) (hI : HI K n dn wn vn kn M C kd px pcs bt F fc nr nc) : Met l yX3_neighbours wsX3_neighbours rX3_neighbours (gP D (tyl cI cJ cG) [.ref h_, .int x] (hwW cI cJ cG R h_ c_ d_ w_ v_ t_ rk_ ro_ rc_ al_ b_ ka_ na_ jo_ me_ wo_ fd_ nr_ nc_ sc_ ar ac K n dn wn vn tk kn M C al kd me px pcs bt wo le F fc nr nc sc) sz) (gQi D (tyl cI cJ cG) (hwW cI cJ cG R h_ c_ d_ w_ v_ t_ rk_ ro_ rc_ al_ b_ ka_ na_ jo_ me_ wo_ fd_ nr_ nc_ sc_ ar ac K n dn wn vn tk kn M C al kd me px pcs bt wo le F fc nr nc sc) sz (fun r (u : Nat → Nat) => r = if inB x pcs = true then nI (nbN bt.1 x.toNatClampNeg (fu (fun _ => 0) me 100) 100) else -1) (fun u => (hwW cI cJ cG R h_ c_ d_ w_ v_ t_ rk_ ro_ rc_ al_ b_ ka_ na_ jo_ me_ wo_ fd_ nr_ nc_ sc_ ar ac K n dn wn vn tk kn M C al kd u px pcs bt wo le F fc nr nc sc))) 0 0 (va_A (hwW cI cJ cG R h_ c_ d_ w_ v_ t_ rk_ ro_ rc_ al_ b_ ka_ na_ jo_ me_ wo_ fd_ nr_ nc_ sc_ ar ac K n dn wn vn tk kn M C al kd me px pcs bt wo le F fc nr nc sc) sz) := by
  refine gMet (cc := cX3_neighbours) (maxL := 2) (ret := (some .int)) (ls0 := [(0, .ref h_), (1, .int x)]) (by decide) rfl (Nat.le_of_ble_eq_true rfl) rfl ?_
  intro p e s m below meth c hx hb hr hts hown hlocks hml hname A hA hAe hsz Q hQe H locs hP hK hD hS ls hl
  have hown : s.vm.findClass RX3 = some m.cls := hown
  have in_X3 : ∀ w ∈ wsX30, w ∈ wsX3_neighbours := by decide +kernel
  have f_32 := hts (.fieldLink RX3 32 "SpectrumHeads" "belt" "LSpectrumHeads$Belt;") (by decide +kernel)
  obtain ⟨⟨hK1, hK4⟩, hn, ⟨hdn, hwn, hvn⟩, ⟨hkn, hM, hC⟩, ⟨hkd, hpx, hpcs, hbt⟩, ⟨hF, hfc⟩, ⟨hnr, hnc⟩⟩ := id hI
  refine lv_aload_n hx hb dX3_neighbours_0 rfl (lv_at hl 0 rfl) ?_
  refine va_get (D := D) (ci := 4) (v := .ref b_) (C := RX3) (T := TX3) (N := 11) hx hb hts in_X3 hown hK hP 0 rfl rfl 3 (by decide) f_32 (fun _ h9 => h9) rfl dX3_neighbours_1 ?_
  refine lv_iload_n hx hb dX3_neighbours_4 rfl (lv_at hl 1 rfl) ?_
  have hP := pm_10_11_12_13_14_0_1_2_3_4_5_6_7_8_9_15_16_17_18_19_P hP
  have hD := pm_10_11_12_13_14_0_1_2_3_4_5_6_7_8_9_15_16_17_18_19_D hD
  refine gc_Vi (As := [.int x]) (rest := []) (ci := 1) (q0 := 0) ⟨hx, hb, hml, hown, hts⟩ (c_X0_hasPiece l D cI cJ cG H.size _ b_ ka_ na_ jo_ me_ kd me px pcs bt x hpcs) (cwV 1 hts gX3_neighbours_X0_hasPiece rfl rfl rfl (by decide +kernel) ⟨Nat.le_of_ble_eq_true rfl, Nat.le_of_ble_eq_true rfl⟩) rfl rfl rfl hK hP hD hS hA rfl hl.1 rfl (Nat.le_of_ble_eq_true rfl) dX3_neighbours_5 ⟨Nat.le_of_ble_eq_true rfl, Nat.le_of_ble_eq_true rfl⟩ (fun r5 u5 H locs h5 hP hD hS => ?_)
  subst h5
  have hP := pm_5_6_7_8_9_10_11_12_13_14_0_1_2_3_4_15_16_17_18_19_P hP
  have hD := pm_5_6_7_8_9_10_11_12_13_14_0_1_2_3_4_15_16_17_18_19_D hD
  have hP : va_P D vwCl (hwW cI cJ cG R h_ c_ d_ w_ v_ t_ rk_ ro_ rc_ al_ b_ ka_ na_ jo_ me_ wo_ fd_ nr_ nc_ sc_ ar ac K n dn wn vn tk kn M C al kd me px pcs bt wo le F fc nr nc sc) H := hP
  have hD : va_D A (hwW cI cJ cG R h_ c_ d_ w_ v_ t_ rk_ ro_ rc_ al_ b_ ka_ na_ jo_ me_ wo_ fd_ nr_ nc_ sc_ ar ac K n dn wn vn tk kn M C al kd me px pcs bt wo le F fc nr nc sc) := hD
  refine lv_if_eq (tgt := 22) hx hb dX3_neighbours_8 (by decide) (fun c8 => ?_) (fun c8 => ?_)
  · skip
    have hB8 := bI_0.mp c8
    refine lv_iconst (v := -1) hx hb dX3_neighbours_22 (by decide) ?_
    subst hQe
    subst hAe
    subst hsz
    exact g_iret hx hb hr hlocks me (by rw [hB8]; rfl) hP hK hD hS dX3_neighbours_23
  · skip
    have hB8 := bI_n0.mp c8
    obtain ⟨a, ha_, rfl⟩ := inB_of hB8 (by omega)
    refine lv_aload_n hx hb dX3_neighbours_11 rfl (lv_at hl 0 rfl) ?_
    refine va_get (D := D) (ci := 4) (v := .ref b_) (C := RX3) (T := TX3) (N := 11) hx hb hts in_X3 hown hK hP 0 rfl rfl 3 (by decide) f_32 (fun _ h9 => h9) rfl dX3_neighbours_12 ?_
    refine lv_iload_n hx hb dX3_neighbours_15 rfl (lv_at hl 1 rfl) ?_
    have hP := pm_10_11_12_13_14_0_1_2_3_4_5_6_7_8_9_15_16_17_18_19_P hP
    have hD := pm_10_11_12_13_14_0_1_2_3_4_5_6_7_8_9_15_16_17_18_19_D hD
    refine gc_Vi (As := [.int (nI a)]) (rest := []) (ci := 1) (q0 := 0) ⟨hx, hb, hml, hown, hts⟩ (c_X0_countNeighbours l D cI cJ cG H.size _ b_ ka_ na_ jo_ me_ kd me px pcs bt a (by omega) hkd hbt) (cwV 1 hts gX3_neighbours_X0_countNeighbours rfl rfl rfl (by decide +kernel) ⟨Nat.le_of_ble_eq_true rfl, Nat.le_of_ble_eq_true rfl⟩) rfl rfl rfl hK hP hD hS hA rfl hl.1 rfl (Nat.le_of_ble_eq_true rfl) dX3_neighbours_16 ⟨Nat.le_of_ble_eq_true rfl, Nat.le_of_ble_eq_true rfl⟩ (fun r16 u16 H locs h16 hP hD hS => ?_)
    subst h16
    have hP := pm_5_6_7_8_9_10_11_12_13_14_0_1_2_3_4_15_16_17_18_19_P hP
    have hD := pm_5_6_7_8_9_10_11_12_13_14_0_1_2_3_4_15_16_17_18_19_D hD
    have hP : va_P D vwCl (hwW cI cJ cG R h_ c_ d_ w_ v_ t_ rk_ ro_ rc_ al_ b_ ka_ na_ jo_ me_ wo_ fd_ nr_ nc_ sc_ ar ac K n dn wn vn tk kn M C al kd (metP bt.1 a (fu (fun _ => 0) me 100) 256) px pcs bt wo le F fc nr nc sc) H := hP
    have hD : va_D A (hwW cI cJ cG R h_ c_ d_ w_ v_ t_ rk_ ro_ rc_ al_ b_ ka_ na_ jo_ me_ wo_ fd_ nr_ nc_ sc_ ar ac K n dn wn vn tk kn M C al kd (metP bt.1 a (fu (fun _ => 0) me 100) 256) px pcs bt wo le F fc nr nc sc) := hD
    refine lv_goto (tgt := 23) hx hb dX3_neighbours_19 (by decide) ?_
    subst hQe
    subst hAe
    subst hsz
    exact g_iret hx hb hr hlocks (metP bt.1 a (fu (fun _ => 0) me 100) 256) (by rw [hB8, nI_clamp (by omega)]; rfl) hP hK hD hS dX3_neighbours_23
abbrev rX3_correct : Room := { frames := 1, cells := 0, slots := 0, locals := 22 }
set_option maxHeartbeats 4000000 in
set_option maxRecDepth 100000 in
theorem c_X3_correct (l : Launch) (D : va_G) (cI cJ cG : ClassId) (sz : Nat) (R : va_W) (h_ c_ d_ w_ v_ t_ rk_ ro_ rc_ al_ b_ ka_ na_ jo_ me_ wo_ fd_ nr_ nc_ sc_ : Nat) (ar ac : Nat → Nat) (K : Nat) (n : Nat) (dn : Nat → Nat) (wn : Nat → Nat) (vn : Nat → Nat) (tk : Int64) (kn : Nat → Nat) (M : Nat → Nat → Nat) (C : Nat → Nat → Nat) (al : Nat → Nat) (kd : Nat → Nat) (me : Nat → Nat) (px : Nat) (pcs : Nat) (bt : Bst) (wo : Nat → Int64) (le : Int64) (F : Nat → Nat) (fc : Nat) (nr : Nat → Nat) (nc : Nat → Nat) (sc : Nat → Nat) (x y : Int32) (hI : HI K n dn wn vn kn M C kd px pcs bt F fc nr nc) : Met l yX3_correct wsX3_correct rX3_correct (gP D (tyl cI cJ cG) [.ref h_, .int x, .int y] (hwW cI cJ cG R h_ c_ d_ w_ v_ t_ rk_ ro_ rc_ al_ b_ ka_ na_ jo_ me_ wo_ fd_ nr_ nc_ sc_ ar ac K n dn wn vn tk kn M C al kd me px pcs bt wo le F fc nr nc sc) sz) (gQi D (tyl cI cJ cG) (hwW cI cJ cG R h_ c_ d_ w_ v_ t_ rk_ ro_ rc_ al_ b_ ka_ na_ jo_ me_ wo_ fd_ nr_ nc_ sc_ ar ac K n dn wn vn tk kn M C al kd me px pcs bt wo le F fc nr nc sc) sz (fun r (u : Nat → Nat) => (r = if (inB x n && inB y K) = true then nI (kn x.toNatClampNeg) else -1) ∧ u = if (inB x n && inB y K) = true then un kn x.toNatClampNeg y.toNatClampNeg else kn) (fun u => (hwW cI cJ cG R h_ c_ d_ w_ v_ t_ rk_ ro_ rc_ al_ b_ ka_ na_ jo_ me_ wo_ fd_ nr_ nc_ sc_ ar ac K n dn wn vn tk u M C al kd me px pcs bt wo le F fc nr nc sc))) 0 0 (va_A (hwW cI cJ cG R h_ c_ d_ w_ v_ t_ rk_ ro_ rc_ al_ b_ ka_ na_ jo_ me_ wo_ fd_ nr_ nc_ sc_ ar ac K n dn wn vn tk kn M C al kd me px pcs bt wo le F fc nr nc sc) sz) := by
  refine gMet (cc := cX3_correct) (maxL := 4) (ret := (some .int)) (ls0 := [(0, .ref h_), (1, .int x), (2, .int y)]) (by decide) rfl (Nat.le_of_ble_eq_true rfl) rfl ?_
  intro p e s m below meth c hx hb hr hts hown hlocks hml hname A hA hAe hsz Q hQe H locs hP hK hD hS ls hl
  have hown : s.vm.findClass RX3 = some m.cls := hown
  have in_X3 : ∀ w ∈ wsX30, w ∈ wsX3_correct := by decide +kernel
  have f_25 := hts (.fieldLink RX3 25 "SpectrumHeads" "table" "LSpectrumHeads$Table;") (by decide +kernel)
  obtain ⟨⟨hK1, hK4⟩, hn, ⟨hdn, hwn, hvn⟩, ⟨hkn, hM, hC⟩, ⟨hkd, hpx, hpcs, hbt⟩, ⟨hF, hfc⟩, ⟨hnr, hnc⟩⟩ := id hI
  refine lv_aload_n hx hb dX3_correct_0 rfl (lv_at hl 0 rfl) ?_
  refine va_get (D := D) (ci := 4) (v := .ref t_) (C := RX3) (T := TX3) (N := 11) hx hb hts in_X3 hown hK hP 0 rfl rfl 2 (by decide) f_25 (fun _ h9 => h9) rfl dX3_correct_1 ?_
  refine lv_iload_n hx hb dX3_correct_4 rfl (lv_at hl 1 rfl) ?_
  have hP := sw_5_6_7_8_9_of_20_P hP
  have hD := sw_5_6_7_8_9_of_20_D hD
  refine gc_Vi (As := [.int x]) (rest := []) (ci := 3) (q0 := 0) ⟨hx, hb, hml, hown, hts⟩ (c_X2_has l D cI cJ cG H.size _ t_ rk_ ro_ rc_ al_ ar ac K n kn M C al x hn) (cwV 1 hts gX3_correct_X2_has rfl rfl rfl (by decide +kernel) ⟨Nat.le_of_ble_eq_true rfl, Nat.le_of_ble_eq_true rfl⟩) rfl rfl rfl hK hP hD hS hA rfl hl.1 rfl (Nat.le_of_ble_eq_true rfl) dX3_correct_5 ⟨Nat.le_of_ble_eq_true rfl, Nat.le_of_ble_eq_true rfl⟩ (fun r5 u5 H locs h5 hP hD hS => ?_)
  subst h5
  have hP := sw_5_6_7_8_9_of_20_Pb hP
  have hD := sw_5_6_7_8_9_of_20_Db hD
  have hP : va_P D vwCl (hwW cI cJ cG R h_ c_ d_ w_ v_ t_ rk_ ro_ rc_ al_ b_ ka_ na_ jo_ me_ wo_ fd_ nr_ nc_ sc_ ar ac K n dn wn vn tk kn M C al kd me px pcs bt wo le F fc nr nc sc) H := hP
  have hD : va_D A (hwW cI cJ cG R h_ c_ d_ w_ v_ t_ rk_ ro_ rc_ al_ b_ ka_ na_ jo_ me_ wo_ fd_ nr_ nc_ sc_ ar ac K n dn wn vn tk kn M C al kd me px pcs bt wo le F fc nr nc sc) := hD
  refine lv_if_eq (tgt := 19) hx hb dX3_correct_8 (by decide) (fun c8 => ?_) (fun c8 => ?_)
  · skip
    have hB8 := bI_0.mp c8
    have hB : (inB x n && inB y K) = false := by rw [hB8]; rfl
    refine lv_iconst (v := -1) hx hb dX3_correct_19 (by decide) ?_
    subst hQe
    subst hAe
    subst hsz
    exact g_iret hx hb hr hlocks kn ⟨by rw [hB]; rfl, by rw [hB]; rfl⟩ hP hK hD hS dX3_correct_20
  · skip
    have hB8 := bI_n0.mp c8
    obtain ⟨a, ha_, rfl⟩ := inB_of hB8 (by omega)
    refine lv_aload_n hx hb dX3_correct_11 rfl (lv_at hl 0 rfl) ?_
    refine lv_iload_n hx hb dX3_correct_12 rfl (lv_at hl 2 rfl) ?_
    refine gc_Vi (As := [.int y]) (rest := []) (ci := 4) (q0 := 0) ⟨hx, hb, hml, hown, hts⟩ (c_X3_isKind l D cI cJ cG H.size _ h_ c_ t_ b_ wo_ fd_ nr_ nc_ sc_ K fc le y hK4) (cwV 1 hts gX3_correct_X3_isKind rfl rfl rfl (by decide +kernel) ⟨Nat.le_of_ble_eq_true rfl, Nat.le_of_ble_eq_true rfl⟩) rfl rfl rfl hK hP hD hS hA rfl hl.1 rfl (Nat.le_of_ble_eq_true rfl) dX3_correct_13 ⟨Nat.le_of_ble_eq_true rfl, Nat.le_of_ble_eq_true rfl⟩ (fun r13 u13 H locs h13 hP hD hS => ?_)
    subst h13
    have hP : va_P D vwCl (hwW cI cJ cG R h_ c_ d_ w_ v_ t_ rk_ ro_ rc_ al_ b_ ka_ na_ jo_ me_ wo_ fd_ nr_ nc_ sc_ ar ac K n dn wn vn tk kn M C al kd me px pcs bt wo le F fc nr nc sc) H := hP
    have hD : va_D A (hwW cI cJ cG R h_ c_ d_ w_ v_ t_ rk_ ro_ rc_ al_ b_ ka_ na_ jo_ me_ wo_ fd_ nr_ nc_ sc_ ar ac K n dn wn vn tk kn M C al kd me px pcs bt wo le F fc nr nc sc) := hD
    refine lv_if_ne (tgt := 21) hx hb dX3_correct_16 (by decide) (fun c16 => ?_) (fun c16 => ?_)
    · skip
      have hB16 := bI_n0.mp c16
      obtain ⟨b, hb_, rfl⟩ := inB_of hB16 (by omega)
      have hB : (inB (nI a) n && inB (nI b) K) = true := by rw [hB8, hB16]; rfl
      refine lv_aload_n hx hb dX3_correct_21 rfl (lv_at hl 0 rfl) ?_
      refine va_get (D := D) (ci := 4) (v := .ref t_) (C := RX3) (T := TX3) (N := 11) hx hb hts in_X3 hown hK hP 0 rfl rfl 2 (by decide) f_25 (fun _ h9 => h9) rfl dX3_correct_22 ?_
      refine lv_iload_n hx hb dX3_correct_25 rfl (lv_at hl 1 rfl) ?_
      have hP := sw_5_6_7_8_9_of_20_P hP
      have hD := sw_5_6_7_8_9_of_20_D hD
      refine gc_Vi (As := [.int (nI a)]) (rest := []) (ci := 3) (q0 := 0) ⟨hx, hb, hml, hown, hts⟩ (c_X2_kindOf l D cI cJ cG H.size _ t_ rk_ ro_ rc_ al_ ar ac K n kn M C al a (by omega)) (cwV 1 hts gX3_correct_X2_kindOf rfl rfl rfl (by decide +kernel) ⟨Nat.le_of_ble_eq_true rfl, Nat.le_of_ble_eq_true rfl⟩) rfl rfl rfl hK hP hD hS hA rfl hl.1 rfl (Nat.le_of_ble_eq_true rfl) dX3_correct_26 ⟨Nat.le_of_ble_eq_true rfl, Nat.le_of_ble_eq_true rfl⟩ (fun r26 u26 H locs h26 hP hD hS => ?_)
      subst h26
      have hP := sw_5_6_7_8_9_of_20_Pb hP
      have hD := sw_5_6_7_8_9_of_20_Db hD
      have hP : va_P D vwCl (hwW cI cJ cG R h_ c_ d_ w_ v_ t_ rk_ ro_ rc_ al_ b_ ka_ na_ jo_ me_ wo_ fd_ nr_ nc_ sc_ ar ac K n dn wn vn tk kn M C al kd me px pcs bt wo le F fc nr nc sc) H := hP
      have hD : va_D A (hwW cI cJ cG R h_ c_ d_ w_ v_ t_ rk_ ro_ rc_ al_ b_ ka_ na_ jo_ me_ wo_ fd_ nr_ nc_ sc_ ar ac K n dn wn vn tk kn M C al kd me px pcs bt wo le F fc nr nc sc) := hD
      refine lv_istore_n (lv' := [(3, .int (nI (kn a))), (0, .ref h_), (1, .int (nI a)), (2, .int (nI b))]) hx hb dX3_correct_29 rfl hl (by decide) rfl (fun ls hl => ?_)
      refine lv_aload_n hx hb dX3_correct_30 rfl (lv_at hl 1 rfl) ?_
      refine va_get (D := D) (ci := 4) (v := .ref t_) (C := RX3) (T := TX3) (N := 11) hx hb hts in_X3 hown hK hP 0 rfl rfl 2 (by decide) f_25 (fun _ h9 => h9) rfl dX3_correct_31 ?_
      refine lv_iload_n hx hb dX3_correct_34 rfl (lv_at hl 2 rfl) ?_
      refine lv_iload_n hx hb dX3_correct_35 rfl (lv_at hl 3 rfl) ?_
      have hP := sw_5_6_7_8_9_of_20_P hP
      have hD := sw_5_6_7_8_9_of_20_D hD
      refine gc_Vv (As := [.int (nI a), .int (nI b)]) (rest := []) (ci := 3) (q0 := 0) ⟨hx, hb, hml, hown, hts⟩ (c_X2_setKind l D cI cJ cG H.size _ t_ rk_ ro_ rc_ al_ ar ac K n kn M C al a b (by omega)) (cwV 2 hts gX3_correct_X2_setKind rfl rfl rfl (by decide +kernel) ⟨Nat.le_of_ble_eq_true rfl, Nat.le_of_ble_eq_true rfl⟩) rfl rfl rfl hK hP hD hS hA rfl hl.1 rfl (Nat.le_of_ble_eq_true rfl) dX3_correct_36 ⟨Nat.le_of_ble_eq_true rfl, Nat.le_of_ble_eq_true rfl⟩ (fun u36 H locs h36 hP hD hS => ?_)
      have hP := sw_5_6_7_8_9_of_20_Pb hP
      have hD := sw_5_6_7_8_9_of_20_Db hD
      have hP : va_P D vwCl (hwW cI cJ cG R h_ c_ d_ w_ v_ t_ rk_ ro_ rc_ al_ b_ ka_ na_ jo_ me_ wo_ fd_ nr_ nc_ sc_ ar ac K n dn wn vn tk (un kn a b) M C al kd me px pcs bt wo le F fc nr nc sc) H := hP
      have hD : va_D A (hwW cI cJ cG R h_ c_ d_ w_ v_ t_ rk_ ro_ rc_ al_ b_ ka_ na_ jo_ me_ wo_ fd_ nr_ nc_ sc_ ar ac K n dn wn vn tk (un kn a b) M C al kd me px pcs bt wo le F fc nr nc sc) := hD
      refine lv_iload_n hx hb dX3_correct_39 rfl (lv_at hl 0 rfl) ?_
      subst hQe
      subst hAe
      subst hsz
      exact g_iret hx hb hr hlocks (un kn a b) ⟨by rw [hB, nI_clamp (by omega)]; rfl, by rw [hB, nI_clamp (by omega), nI_clamp (by omega)]; rfl⟩ hP hK hD hS dX3_correct_40
    · skip
      have hB16 := bI_0.mp c16
      have hB : (inB (nI a) n && inB y K) = false := by rw [hB16, Bool.and_false]
      refine lv_iconst (v := -1) hx hb dX3_correct_19 (by decide) ?_
      subst hQe
      subst hAe
      subst hsz
      exact g_iret hx hb hr hlocks kn ⟨by rw [hB]; rfl, by rw [hB]; rfl⟩ hP hK hD hS dX3_correct_20
abbrev rX3_greatest : Room := { frames := 0, cells := 0, slots := 0, locals := 0 }
set_option maxHeartbeats 4000000 in
set_option maxRecDepth 100000 in
theorem c_X3_greatest (l : Launch) (D : va_G) (cI cJ cG : ClassId) (sz : Nat) (R : va_W) (h_ c_ t_ b_ wo_ fd_ nr_ nc_ sc_ K fc : Nat) (le : Int64) (wo : Nat → Int64) (sc : Nat → Nat) (hK1 : 1 ≤ K) (hK4 : K ≤ 4) (hsc : ∀ k, k < K → sc k < 2 ^ 31) : Met l yX3_greatest wsX3_greatest rX3_greatest (gP D (tyl cI cJ cG) [.ref h_] ((h_, .inr (4, [.int (nI K), .ref c_, .ref t_, .ref b_, .ref wo_, .long le, .ref fd_, .int (nI fc), .ref nr_, .ref nc_, .ref sc_])) :: (wo_, .inl (cJ, K, .inr (.inl wo))) :: (sc_, .inl (cJ, K, .inr (.inl (lf sc)))) :: R) sz) (gQi D (tyl cI cJ cG) ((h_, .inr (4, [.int (nI K), .ref c_, .ref t_, .ref b_, .ref wo_, .long le, .ref fd_, .int (nI fc), .ref nr_, .ref nc_, .ref sc_])) :: (wo_, .inl (cJ, K, .inr (.inl wo))) :: (sc_, .inl (cJ, K, .inr (.inl (lf sc)))) :: R) sz (fun r (_ : Unit) => r = nI (grN sc wo K)) (fun _ => ((h_, .inr (4, [.int (nI K), .ref c_, .ref t_, .ref b_, .ref wo_, .long le, .ref fd_, .int (nI fc), .ref nr_, .ref nc_, .ref sc_])) :: (wo_, .inl (cJ, K, .inr (.inl wo))) :: (sc_, .inl (cJ, K, .inr (.inl (lf sc)))) :: R))) 0 0 (va_A ((h_, .inr (4, [.int (nI K), .ref c_, .ref t_, .ref b_, .ref wo_, .long le, .ref fd_, .int (nI fc), .ref nr_, .ref nc_, .ref sc_])) :: (wo_, .inl (cJ, K, .inr (.inl wo))) :: (sc_, .inl (cJ, K, .inr (.inl (lf sc)))) :: R) sz) := by
  refine gMet (cc := cX3_greatest) (maxL := 4) (ret := (some .int)) (ls0 := [(0, .ref h_)]) (by decide) rfl (Nat.le_of_ble_eq_true rfl) rfl ?_
  intro p e s m below meth c hx hb hr hts hown hlocks hml hname A hA hAe hsz Q hQe H locs hP hK hD hS ls hl
  have hown : s.vm.findClass RX3 = some m.cls := hown
  have in_X3 : ∀ w ∈ wsX30, w ∈ wsX3_greatest := by decide +kernel
  have f_9 := hts (.fieldLink RX3 9 "SpectrumHeads" "kinds" "I") (by decide +kernel)
  have f_57 := hts (.fieldLink RX3 57 "SpectrumHeads" "scores" "[J") (by decide +kernel)
  have f_36 := hts (.fieldLink RX3 36 "SpectrumHeads" "worths" "[J") (by decide +kernel)
  refine lv_iconst (v := 0) hx hb dX3_greatest_0 (by decide) ?_
  refine lv_istore_n (lv' := [(1, .int 0), (0, .ref h_)]) hx hb dX3_greatest_1 rfl hl (by decide) rfl (fun ls hl => ?_)
  refine lv_iconst (v := 1) hx hb dX3_greatest_2 (by decide) ?_
  refine lv_istore_n (lv' := [(2, .int 1), (1, .int 0), (0, .ref h_)]) hx hb dX3_greatest_3 rfl hl (by decide) rfl (fun ls hl => ?_)
  have L_4 : ∀ (n_4 : Nat) (k : Nat) (hk : k ≤ K) (hk1 : 1 ≤ k), K - k < n_4 → ∀ (H : Heap) (locs : List Loc) (ls : Array Slot), va_P D vwCl ((h_, .inr (4, [.int (nI K), .ref c_, .ref t_, .ref b_, .ref wo_, .long le, .ref fd_, .int (nI fc), .ref nr_, .ref nc_, .ref sc_])) :: (wo_, .inl (cJ, K, .inr (.inl wo))) :: (sc_, .inl (cJ, K, .inr (.inl (lf sc)))) :: R) H → va_D A ((h_, .inr (4, [.int (nI K), .ref c_, .ref t_, .ref b_, .ref wo_, .long le, .ref fd_, .int (nI fc), .ref nr_, .ref nc_, .ref sc_])) :: (wo_, .inl (cJ, K, .inr (.inl wo))) :: (sc_, .inl (cJ, K, .inr (.inl (lf sc)))) :: R) → va_S A s.heap H locs → lv_has ls 4 [(2, .int (nI k)), (1, .int (nI (grN sc wo k))), (0, .ref h_)] → W p l e (headSpec wsX3_greatest rX3_greatest).room s m ([.ref h_] : List Value).toArray below meth c H locs 0 0 Q (F0 m 4 ls []) := by
    intro n_4
    induction n_4 with
    | zero => intro k hk hk1 hn_; exact absurd hn_ (Nat.not_lt_zero _)
    | succ n_4 ih_4 =>
      intro k hk hk1 hn_4 H locs ls hP hD hS hl
      refine lv_iload_n hx hb dX3_greatest_4 rfl (lv_at hl 0 rfl) ?_
      refine lv_aload_n hx hb dX3_greatest_5 rfl (lv_at hl 2 rfl) ?_
      refine va_get (D := D) (ci := 4) (v := .int (nI K)) (C := RX3) (T := TX3) (N := 11) hx hb hts in_X3 hown hK hP 0 rfl rfl 0 (by decide) f_9 (fun _ h9 => h9) rfl dX3_greatest_6 ?_
      refine lv_icmp_ge (tgt := 78) hx hb dX3_greatest_9 (by decide) (fun c9 => ?_) (fun c9 => ?_)
      · skip
        have hE9 := lp_e (n := K) c9 hk
        subst hE9
        refine lv_iload_n hx hb dX3_greatest_78 rfl (lv_at hl 1 rfl) ?_
        subst hQe
        subst hAe
        subst hsz
        exact g_iret hx hb hr hlocks () rfl hP hK hD hS dX3_greatest_79
      · skip
        have hk8 := lp_l (n := K) c9 hk
        have hg : grN sc wo k < k := grN_lt k hk1
        have hs1 := hsc k hk8
        have hs2 := hsc (grN sc wo k) (by omega)
        refine lv_aload_n hx hb dX3_greatest_12 rfl (lv_at hl 2 rfl) ?_
        refine va_get (D := D) (ci := 4) (v := .ref sc_) (C := RX3) (T := TX3) (N := 11) hx hb hts in_X3 hown hK hP 0 rfl rfl 10 (by decide) f_57 (fun _ h9 => h9) rfl dX3_greatest_13 ?_
        refine lv_iload_n hx hb dX3_greatest_16 rfl (lv_at hl 0 rfl) ?_
        refine va_lald hx hb hK hP (2) 1 rfl rfl (by first | exact vp_in_nI (by omega) (by omega) | assumption) dX3_greatest_17 ?_
        refine lv_topl (fun x17 ex17 => ?_)
        rw [nI_clamp (by omega)] at ex17
        obtain rfl : x17 = lN (sc k) := by exact ex17
        refine lv_aload_n hx hb dX3_greatest_18 rfl (lv_at hl 2 rfl) ?_
        refine va_get (D := D) (ci := 4) (v := .ref sc_) (C := RX3) (T := TX3) (N := 11) hx hb hts in_X3 hown hK hP 0 rfl rfl 10 (by decide) f_57 (fun _ h9 => h9) rfl dX3_greatest_19 ?_
        refine lv_iload_n hx hb dX3_greatest_22 rfl (lv_at hl 1 rfl) ?_
        refine va_lald hx hb hK hP (2) 1 rfl rfl (by first | exact vp_in_nI (by omega) (by omega) | assumption) dX3_greatest_23 ?_
        refine lv_topl (fun x23 ex23 => ?_)
        rw [nI_clamp (by omega)] at ex23
        obtain rfl : x23 = lN (sc (grN sc wo k)) := by exact ex23
        refine W.lcmp hx hb dX3_greatest_24 ?_
        refine lv_if_ne (tgt := 32) hx hb dX3_greatest_25 (by decide) (fun c25 => ?_) (fun c25 => ?_)
        · skip
          have hse : ¬ sc k = sc (grN sc wo k) := fun h => c25 ((lg_cmp_eq _ _).mpr (by rw [h]))
          refine lv_iconst (v := 0) hx hb dX3_greatest_32 (by decide) ?_
          refine lv_istore_n (lv' := [(3, .int 0), (2, .int (nI k)), (1, .int (nI (grN sc wo k))), (0, .ref h_)]) hx hb dX3_greatest_33 rfl hl (by decide) rfl (fun ls hl => ?_)
          refine lv_aload_n hx hb dX3_greatest_34 rfl (lv_at hl 3 rfl) ?_
          refine va_get (D := D) (ci := 4) (v := .ref sc_) (C := RX3) (T := TX3) (N := 11) hx hb hts in_X3 hown hK hP 0 rfl rfl 10 (by decide) f_57 (fun _ h9 => h9) rfl dX3_greatest_35 ?_
          refine lv_iload_n hx hb dX3_greatest_38 rfl (lv_at hl 1 rfl) ?_
          refine va_lald hx hb hK hP (2) 1 rfl rfl (by first | exact vp_in_nI (by omega) (by omega) | assumption) dX3_greatest_39 ?_
          refine lv_topl (fun x39 ex39 => ?_)
          rw [nI_clamp (by omega)] at ex39
          obtain rfl : x39 = lN (sc k) := by exact ex39
          refine lv_aload_n hx hb dX3_greatest_40 rfl (lv_at hl 3 rfl) ?_
          refine va_get (D := D) (ci := 4) (v := .ref sc_) (C := RX3) (T := TX3) (N := 11) hx hb hts in_X3 hown hK hP 0 rfl rfl 10 (by decide) f_57 (fun _ h9 => h9) rfl dX3_greatest_41 ?_
          refine lv_iload_n hx hb dX3_greatest_44 rfl (lv_at hl 2 rfl) ?_
          refine va_lald hx hb hK hP (2) 1 rfl rfl (by first | exact vp_in_nI (by omega) (by omega) | assumption) dX3_greatest_45 ?_
          refine lv_topl (fun x45 ex45 => ?_)
          rw [nI_clamp (by omega)] at ex45
          obtain rfl : x45 = lN (sc (grN sc wo k)) := by exact ex45
          refine W.lcmp hx hb dX3_greatest_46 ?_
          refine lv_if_gt (tgt := 70) hx hb dX3_greatest_47 (by decide) (fun c47 => ?_) (fun c47 => ?_)
          · skip
            have hyes : sc (grN sc wo k) < sc k ∨ (sc k = sc (grN sc wo k) ∧ wo (grN sc wo k) < wo k) := Or.inl ((pk_lLT (by omega) (by omega)).mp ((lg_cmp_gt _ _).mp c47))
            refine lv_iload_n hx hb dX3_greatest_70 rfl (lv_at hl 1 rfl) ?_
            refine lv_istore_n (lv' := [(1, .int (nI k)), (3, .int 0), (2, .int (nI k)), (0, .ref h_)]) hx hb dX3_greatest_71 rfl hl (by decide) rfl (fun ls hl => ?_)
            have hl := gr_loc hl (grN_t hk1 hyes)
            obtain ⟨x72, ex72⟩ : ∃ y : Int32, y = (nI k) + 1 := ⟨_, rfl⟩
            refine lv_iinc (v := x72) (lv' := [(2, .int x72), (1, .int (nI (grN sc wo (k + 1)))), (3, .int 0), (0, .ref h_)]) hx hb dX3_greatest_72 hl (k := 2) rfl (by rw [ex72]; rfl) (by decide) rfl (fun ls hl => ?_)
            obtain rfl : x72 = nI (k + 1) := by rw [ex72]; exact nI_1 _
            refine lv_goto (tgt := 4) hx hb dX3_greatest_75 (by decide) ?_
            exact ih_4 (k + 1) (by omega) (by omega) (by omega) H locs ls hP hD hS (lv_sub hl [0, 1, 3] rfl)
          · skip
            have hgt : ¬ sc (grN sc wo k) < sc k := fun h => c47 ((lg_cmp_gt _ _).mpr ((pk_lLT (by omega) (by omega)).mpr h))
            refine lv_iload_n hx hb dX3_greatest_50 rfl (lv_at hl 0 rfl) ?_
            refine lv_if_eq (tgt := 72) hx hb dX3_greatest_51 (by decide) (fun c51 => ?_) (fun c51 => ?_)
            · skip
              have hno : ¬ (sc (grN sc wo k) < sc k ∨ (sc k = sc (grN sc wo k) ∧ wo (grN sc wo k) < wo k)) := fun h => h.elim hgt (fun h2 => hse h2.1)
              rw [grN_f hk1 hno] at hl
              obtain ⟨x72, ex72⟩ : ∃ y : Int32, y = (nI k) + 1 := ⟨_, rfl⟩
              refine lv_iinc (v := x72) (lv' := [(2, .int x72), (3, .int 0), (1, .int (nI (grN sc wo (k + 1)))), (0, .ref h_)]) hx hb dX3_greatest_72 hl (k := 1) rfl (by rw [ex72]; rfl) (by decide) rfl (fun ls hl => ?_)
              obtain rfl : x72 = nI (k + 1) := by rw [ex72]; exact nI_1 _
              refine lv_goto (tgt := 4) hx hb dX3_greatest_75 (by decide) ?_
              exact ih_4 (k + 1) (by omega) (by omega) (by omega) H locs ls hP hD hS (lv_sub hl [0, 2, 3] rfl)
            · skip
              exact absurd rfl c51
        · skip
          have hse : sc k = sc (grN sc wo k) := (pk_lEQ (by omega) (by omega)).mp ((lg_cmp_eq _ _).mp c25)
          refine lv_iconst (v := 1) hx hb dX3_greatest_28 (by decide) ?_
          refine lv_goto (tgt := 33) hx hb dX3_greatest_29 (by decide) ?_
          refine lv_istore_n (lv' := [(3, .int 1), (2, .int (nI k)), (1, .int (nI (grN sc wo k))), (0, .ref h_)]) hx hb dX3_greatest_33 rfl hl (by decide) rfl (fun ls hl => ?_)
          refine lv_aload_n hx hb dX3_greatest_34 rfl (lv_at hl 3 rfl) ?_
          refine va_get (D := D) (ci := 4) (v := .ref sc_) (C := RX3) (T := TX3) (N := 11) hx hb hts in_X3 hown hK hP 0 rfl rfl 10 (by decide) f_57 (fun _ h9 => h9) rfl dX3_greatest_35 ?_
          refine lv_iload_n hx hb dX3_greatest_38 rfl (lv_at hl 1 rfl) ?_
          refine va_lald hx hb hK hP (2) 1 rfl rfl (by first | exact vp_in_nI (by omega) (by omega) | assumption) dX3_greatest_39 ?_
          refine lv_topl (fun x39 ex39 => ?_)
          rw [nI_clamp (by omega)] at ex39
          obtain rfl : x39 = lN (sc k) := by exact ex39
          refine lv_aload_n hx hb dX3_greatest_40 rfl (lv_at hl 3 rfl) ?_
          refine va_get (D := D) (ci := 4) (v := .ref sc_) (C := RX3) (T := TX3) (N := 11) hx hb hts in_X3 hown hK hP 0 rfl rfl 10 (by decide) f_57 (fun _ h9 => h9) rfl dX3_greatest_41 ?_
          refine lv_iload_n hx hb dX3_greatest_44 rfl (lv_at hl 2 rfl) ?_
          refine va_lald hx hb hK hP (2) 1 rfl rfl (by first | exact vp_in_nI (by omega) (by omega) | assumption) dX3_greatest_45 ?_
          refine lv_topl (fun x45 ex45 => ?_)
          rw [nI_clamp (by omega)] at ex45
          obtain rfl : x45 = lN (sc (grN sc wo k)) := by exact ex45
          refine W.lcmp hx hb dX3_greatest_46 ?_
          refine lv_if_gt (tgt := 70) hx hb dX3_greatest_47 (by decide) (fun c47 => ?_) (fun c47 => ?_)
          · skip
            have hyes : sc (grN sc wo k) < sc k ∨ (sc k = sc (grN sc wo k) ∧ wo (grN sc wo k) < wo k) := Or.inl ((pk_lLT (by omega) (by omega)).mp ((lg_cmp_gt _ _).mp c47))
            refine lv_iload_n hx hb dX3_greatest_70 rfl (lv_at hl 1 rfl) ?_
            refine lv_istore_n (lv' := [(1, .int (nI k)), (3, .int 1), (2, .int (nI k)), (0, .ref h_)]) hx hb dX3_greatest_71 rfl hl (by decide) rfl (fun ls hl => ?_)
            have hl := gr_loc hl (grN_t hk1 hyes)
            obtain ⟨x72, ex72⟩ : ∃ y : Int32, y = (nI k) + 1 := ⟨_, rfl⟩
            refine lv_iinc (v := x72) (lv' := [(2, .int x72), (1, .int (nI (grN sc wo (k + 1)))), (3, .int 1), (0, .ref h_)]) hx hb dX3_greatest_72 hl (k := 2) rfl (by rw [ex72]; rfl) (by decide) rfl (fun ls hl => ?_)
            obtain rfl : x72 = nI (k + 1) := by rw [ex72]; exact nI_1 _
            refine lv_goto (tgt := 4) hx hb dX3_greatest_75 (by decide) ?_
            exact ih_4 (k + 1) (by omega) (by omega) (by omega) H locs ls hP hD hS (lv_sub hl [0, 1, 3] rfl)
          · skip
            have hgt : ¬ sc (grN sc wo k) < sc k := fun h => c47 ((lg_cmp_gt _ _).mpr ((pk_lLT (by omega) (by omega)).mpr h))
            refine lv_iload_n hx hb dX3_greatest_50 rfl (lv_at hl 0 rfl) ?_
            refine lv_if_eq (tgt := 72) hx hb dX3_greatest_51 (by decide) (fun c51 => ?_) (fun c51 => ?_)
            · skip
              exact absurd c51 (by decide)
            · skip
              refine lv_aload_n hx hb dX3_greatest_54 rfl (lv_at hl 3 rfl) ?_
              refine va_get (D := D) (ci := 4) (v := .ref wo_) (C := RX3) (T := TX3) (N := 11) hx hb hts in_X3 hown hK hP 0 rfl rfl 4 (by decide) f_36 (fun _ h9 => h9) rfl dX3_greatest_55 ?_
              refine lv_iload_n hx hb dX3_greatest_58 rfl (lv_at hl 1 rfl) ?_
              refine va_lald hx hb hK hP (1) 1 rfl rfl (by first | exact vp_in_nI (by omega) (by omega) | assumption) dX3_greatest_59 ?_
              refine lv_topl (fun x59 ex59 => ?_)
              rw [nI_clamp (by omega)] at ex59
              obtain rfl : x59 = wo k := by exact ex59
              refine lv_aload_n hx hb dX3_greatest_60 rfl (lv_at hl 3 rfl) ?_
              refine va_get (D := D) (ci := 4) (v := .ref wo_) (C := RX3) (T := TX3) (N := 11) hx hb hts in_X3 hown hK hP 0 rfl rfl 4 (by decide) f_36 (fun _ h9 => h9) rfl dX3_greatest_61 ?_
              refine lv_iload_n hx hb dX3_greatest_64 rfl (lv_at hl 2 rfl) ?_
              refine va_lald hx hb hK hP (1) 1 rfl rfl (by first | exact vp_in_nI (by omega) (by omega) | assumption) dX3_greatest_65 ?_
              refine lv_topl (fun x65 ex65 => ?_)
              rw [nI_clamp (by omega)] at ex65
              obtain rfl : x65 = wo (grN sc wo k) := by exact ex65
              refine W.lcmp hx hb dX3_greatest_66 ?_
              refine lv_if_le (tgt := 72) hx hb dX3_greatest_67 (by decide) (fun c67 => ?_) (fun c67 => ?_)
              · skip
                have hno : ¬ (sc (grN sc wo k) < sc k ∨ (sc k = sc (grN sc wo k) ∧ wo (grN sc wo k) < wo k)) := fun h => h.elim hgt (fun h2 => by have := (lg_cmp_le _ _).mp c67; rw [Int64.le_iff_toInt_le] at this; have h3 := h2.2; rw [Int64.lt_iff_toInt_lt] at h3; omega)
                rw [grN_f hk1 hno] at hl
                obtain ⟨x72, ex72⟩ : ∃ y : Int32, y = (nI k) + 1 := ⟨_, rfl⟩
                refine lv_iinc (v := x72) (lv' := [(2, .int x72), (3, .int 1), (1, .int (nI (grN sc wo (k + 1)))), (0, .ref h_)]) hx hb dX3_greatest_72 hl (k := 1) rfl (by rw [ex72]; rfl) (by decide) rfl (fun ls hl => ?_)
                obtain rfl : x72 = nI (k + 1) := by rw [ex72]; exact nI_1 _
                refine lv_goto (tgt := 4) hx hb dX3_greatest_75 (by decide) ?_
                exact ih_4 (k + 1) (by omega) (by omega) (by omega) H locs ls hP hD hS (lv_sub hl [0, 2, 3] rfl)
              · skip
                have hyes : sc (grN sc wo k) < sc k ∨ (sc k = sc (grN sc wo k) ∧ wo (grN sc wo k) < wo k) := Or.inr ⟨hse, by have := mt (lg_cmp_le _ _).mpr c67; rw [Int64.le_iff_toInt_le] at this; rw [Int64.lt_iff_toInt_lt]; omega⟩
                refine lv_iload_n hx hb dX3_greatest_70 rfl (lv_at hl 1 rfl) ?_
                refine lv_istore_n (lv' := [(1, .int (nI k)), (3, .int 1), (2, .int (nI k)), (0, .ref h_)]) hx hb dX3_greatest_71 rfl hl (by decide) rfl (fun ls hl => ?_)
                have hl := gr_loc hl (grN_t hk1 hyes)
                obtain ⟨x72, ex72⟩ : ∃ y : Int32, y = (nI k) + 1 := ⟨_, rfl⟩
                refine lv_iinc (v := x72) (lv' := [(2, .int x72), (1, .int (nI (grN sc wo (k + 1)))), (3, .int 1), (0, .ref h_)]) hx hb dX3_greatest_72 hl (k := 2) rfl (by rw [ex72]; rfl) (by decide) rfl (fun ls hl => ?_)
                obtain rfl : x72 = nI (k + 1) := by rw [ex72]; exact nI_1 _
                refine lv_goto (tgt := 4) hx hb dX3_greatest_75 (by decide) ?_
                exact ih_4 (k + 1) (by omega) (by omega) (by omega) H locs ls hP hD hS (lv_sub hl [0, 1, 3] rfl)
  exact L_4 _ 1 hK1 (Nat.le_refl _) (Nat.lt_succ_self _) H locs ls hP hD hS (lv_sub hl [0, 1, 2] rfl)
