abbrev rX4_read : Room := { frames := 2, cells := 0, slots := 0, locals := 57 }
set_option maxHeartbeats 4000000 in
set_option maxRecDepth 100000 in
theorem c_X4_read (l : Launch) (D : va_G) (cI cJ cG : ClassId) (sz : Nat) (R : va_W) (m_ md_ mw_ mv_ mk_ mr_ mo_ mf_ mb_ mx_ mp_ : Nat) (K : Nat) (n : Nat) (dn : Nat → Nat) (wn : Nat → Nat) (vn : Nat → Nat) (tk : Int64) (kn : Nat → Nat) (M : Nat → Nat → Nat) (wo : Nat → Int64) (le : Int64) (kd : Nat → Nat) (px : Nat) (F : Nat → Nat) (fc : Nat) (ft : Nat) (rw : Nat → Nat) (lb : Nat → Nat) (hI : MI K n dn wn vn kn M kd px F fc rw lb) : Met l yX4_read wsX4_read rX4_read (gP D (tyl cI cJ cG) [.ref m_] (mwW cI cJ cG R m_ md_ mw_ mv_ mk_ mr_ mo_ mf_ mb_ mx_ mp_ K n dn wn vn tk kn M wo le kd px F fc ft rw lb) sz) (gQi D (tyl cI cJ cG) (mwW cI cJ cG R m_ md_ mw_ mv_ mk_ mr_ mo_ mf_ mb_ mx_ mp_ K n dn wn vn tk kn M wo le kd px F fc ft rw lb) sz (fun r (_ : Unit) => r = RD kn (CM M) (ceN (fu (rwN dn wn vn) rw 8)) (-1) n wo le K) (fun _ => (mwW cI cJ cG R m_ md_ mw_ mv_ mk_ mr_ mo_ mf_ mb_ mx_ mp_ K n dn wn vn tk kn M wo le kd px F fc 0 (fu (rwN dn wn vn) rw 8) lb))) 0 0 (va_A (mwW cI cJ cG R m_ md_ mw_ mv_ mk_ mr_ mo_ mf_ mb_ mx_ mp_ K n dn wn vn tk kn M wo le kd px F fc ft rw lb) sz) := by
  refine gMet (cc := cX4_read) (maxL := 1) (ret := (some .int)) (ls0 := [(0, .ref m_)]) (by decide) rfl (Nat.le_of_ble_eq_true rfl) rfl ?_
  intro p e s m below meth c hx hb hr hts hown hlocks hml hname A hA hAe hsz Q hQe H locs hP hK hD hS ls hl
  have hown : s.vm.findClass RX4 = some m.cls := hown
  have in_X4 : ∀ w ∈ wsX40, w ∈ wsX4_read := by decide +kernel
  have f_49 := hts (.fieldLink RX4 49 "SpectrumHeadsModel" "fault" "I") (by decide +kernel)
  obtain ⟨⟨hK1, hK4⟩, hn, ⟨hdn, hwn, hvn⟩, ⟨hkn, hM⟩, ⟨hkd, hpx, hlb⟩, ⟨hF, hfc⟩, hrw⟩ := id hI
  refine lv_aload_n hx hb dX4_read_0 rfl (lv_at hl 0 rfl) ?_
  refine lv_iconst (v := 0) hx hb dX4_read_1 (by decide) ?_
  refine va_put (D := D) (ci := 5) (v := .int 0) (ty := .int) (C := RX4) (T := TX4) (N := 17) hx hb hts in_X4 tyX4 tyX4_ok nmX4 hown hK hP hD hS 0 rfl rfl 14 (by decide) f_49 (fun _ h9 => h9) rfl (by decide +kernel) rfl rfl (Nat.le_of_ble_eq_true rfl) dX4_read_2 (fun H locs hP hD hS => ?_)
  have hP : va_P D vwCl (mwW cI cJ cG R m_ md_ mw_ mv_ mk_ mr_ mo_ mf_ mb_ mx_ mp_ K n dn wn vn tk kn M wo le kd px F fc 0 rw lb) H := hP
  have hD : va_D A (mwW cI cJ cG R m_ md_ mw_ mv_ mk_ mr_ mo_ mf_ mb_ mx_ mp_ K n dn wn vn tk kn M wo le kd px F fc 0 rw lb) := hD
  refine lv_aload_n hx hb dX4_read_5 rfl (lv_at hl 0 rfl) ?_
  refine gc_Vv (As := []) (rest := []) (ci := 5) (q0 := 0) ⟨hx, hb, hml, hown, hts⟩ (c_X4_takeNow l D cI cJ cG H.size R m_ md_ mw_ mv_ mk_ mr_ mo_ mf_ mb_ mx_ mp_ K n dn wn vn tk kn M wo le kd px F fc 0 rw lb hI) (cwV 0 hts gX4_read_X4_takeNow rfl rfl rfl (by decide +kernel) ⟨Nat.le_of_ble_eq_true rfl, Nat.le_of_ble_eq_true rfl⟩) rfl rfl rfl hK hP hD hS hA rfl hl.1 rfl (Nat.le_of_ble_eq_true rfl) dX4_read_6 ⟨Nat.le_of_ble_eq_true rfl, Nat.le_of_ble_eq_true rfl⟩ (fun u6 H locs h6 hP hD hS => ?_)
  have hP : va_P D vwCl (mwW cI cJ cG R m_ md_ mw_ mv_ mk_ mr_ mo_ mf_ mb_ mx_ mp_ K n dn wn vn tk kn M wo le kd px F fc 0 (fu (rwN dn wn vn) rw 8) lb) H := hP
  have hD : va_D A (mwW cI cJ cG R m_ md_ mw_ mv_ mk_ mr_ mo_ mf_ mb_ mx_ mp_ K n dn wn vn tk kn M wo le kd px F fc 0 (fu (rwN dn wn vn) rw 8) lb) := hD
  refine lv_aload_n hx hb dX4_read_9 rfl (lv_at hl 0 rfl) ?_
  refine lv_iconst (v := -1) hx hb dX4_read_10 (by decide) ?_
  refine gc_Vi (As := [.int (-1)]) (rest := []) (ci := 5) (q0 := 0) ⟨hx, hb, hml, hown, hts⟩ (c_X4_readRow l D cI cJ cG H.size R m_ md_ mw_ mv_ mk_ mr_ mo_ mf_ mb_ mx_ mp_ K n dn wn vn tk kn M wo le kd px F fc 0 (fu (rwN dn wn vn) rw 8) lb (-1) (MI_rw hI (nr_le hrw))) (cwV 1 hts gX4_read_X4_readRow rfl rfl rfl (by decide +kernel) ⟨Nat.le_of_ble_eq_true rfl, Nat.le_of_ble_eq_true rfl⟩) rfl rfl rfl hK hP hD hS hA rfl hl.1 rfl (Nat.le_of_ble_eq_true rfl) dX4_read_11 ⟨Nat.le_of_ble_eq_true rfl, Nat.le_of_ble_eq_true rfl⟩ (fun r11 u11 H locs h11 hP hD hS => ?_)
  subst h11
  have hP : va_P D vwCl (mwW cI cJ cG R m_ md_ mw_ mv_ mk_ mr_ mo_ mf_ mb_ mx_ mp_ K n dn wn vn tk kn M wo le kd px F fc 0 (fu (rwN dn wn vn) rw 8) lb) H := hP
  have hD : va_D A (mwW cI cJ cG R m_ md_ mw_ mv_ mk_ mr_ mo_ mf_ mb_ mx_ mp_ K n dn wn vn tk kn M wo le kd px F fc 0 (fu (rwN dn wn vn) rw 8) lb) := hD
  subst hQe
  subst hAe
  subst hsz
  exact g_iret hx hb hr hlocks () rfl hP hK hD hS dX4_read_14
abbrev rX4_sum : Room := { frames := 2, cells := 0, slots := 0, locals := 43 }
set_option maxHeartbeats 4000000 in
set_option maxRecDepth 100000 in
theorem c_X4_sum (l : Launch) (D : va_G) (cI cJ cG : ClassId) (sz : Nat) (R : va_W) (m_ md_ mw_ mv_ mk_ mr_ mo_ mf_ mb_ mx_ mp_ : Nat) (K : Nat) (n : Nat) (dn : Nat → Nat) (wn : Nat → Nat) (vn : Nat → Nat) (tk : Int64) (kn : Nat → Nat) (M : Nat → Nat → Nat) (wo : Nat → Int64) (le : Int64) (kd : Nat → Nat) (px : Nat) (F : Nat → Nat) (fc : Nat) (ft : Nat) (rw : Nat → Nat) (lb : Nat → Nat) (x : Int32) (hI : MI K n dn wn vn kn M kd px F fc rw lb) : Met l yX4_sum wsX4_sum rX4_sum (gP D (tyl cI cJ cG) [.ref m_, .int x] (mwW cI cJ cG R m_ md_ mw_ mv_ mk_ mr_ mo_ mf_ mb_ mx_ mp_ K n dn wn vn tk kn M wo le kd px F fc ft rw lb) sz) (gQl D (tyl cI cJ cG) (mwW cI cJ cG R m_ md_ mw_ mv_ mk_ mr_ mo_ mf_ mb_ mx_ mp_ K n dn wn vn tk kn M wo le kd px F fc ft rw lb) sz (fun r (_ : Unit) => r = if inB x K = true then lN (SUM kn (CM M) (ceN (fu (rwN dn wn vn) rw 8)) x.toNatClampNeg (-1) n) else -1) (fun _ => (mwW cI cJ cG R m_ md_ mw_ mv_ mk_ mr_ mo_ mf_ mb_ mx_ mp_ K n dn wn vn tk kn M wo le kd px F fc 0 (fu (rwN dn wn vn) rw 8) lb))) 0 0 (va_A (mwW cI cJ cG R m_ md_ mw_ mv_ mk_ mr_ mo_ mf_ mb_ mx_ mp_ K n dn wn vn tk kn M wo le kd px F fc ft rw lb) sz) := by
  refine gMet (cc := cX4_sum) (maxL := 2) (ret := (some .long)) (ls0 := [(0, .ref m_), (1, .int x)]) (by decide) rfl (Nat.le_of_ble_eq_true rfl) rfl ?_
  intro p e s m below meth c hx hb hr hts hown hlocks hml hname A hA hAe hsz Q hQe H locs hP hK hD hS ls hl
  have hown : s.vm.findClass RX4 = some m.cls := hown
  have in_X4 : ∀ w ∈ wsX40, w ∈ wsX4_sum := by decide +kernel
  have f_49 := hts (.fieldLink RX4 49 "SpectrumHeadsModel" "fault" "I") (by decide +kernel)
  obtain ⟨⟨hK1, hK4⟩, hn, ⟨hdn, hwn, hvn⟩, ⟨hkn, hM⟩, ⟨hkd, hpx, hlb⟩, ⟨hF, hfc⟩, hrw⟩ := id hI
  refine lv_aload_n hx hb dX4_sum_0 rfl (lv_at hl 0 rfl) ?_
  refine lv_iconst (v := 0) hx hb dX4_sum_1 (by decide) ?_
  refine va_put (D := D) (ci := 5) (v := .int 0) (ty := .int) (C := RX4) (T := TX4) (N := 17) hx hb hts in_X4 tyX4 tyX4_ok nmX4 hown hK hP hD hS 0 rfl rfl 14 (by decide) f_49 (fun _ h9 => h9) rfl (by decide +kernel) rfl rfl (Nat.le_of_ble_eq_true rfl) dX4_sum_2 (fun H locs hP hD hS => ?_)
  have hP : va_P D vwCl (mwW cI cJ cG R m_ md_ mw_ mv_ mk_ mr_ mo_ mf_ mb_ mx_ mp_ K n dn wn vn tk kn M wo le kd px F fc 0 rw lb) H := hP
  have hD : va_D A (mwW cI cJ cG R m_ md_ mw_ mv_ mk_ mr_ mo_ mf_ mb_ mx_ mp_ K n dn wn vn tk kn M wo le kd px F fc 0 rw lb) := hD
  refine lv_aload_n hx hb dX4_sum_5 rfl (lv_at hl 0 rfl) ?_
  refine gc_Vv (As := []) (rest := []) (ci := 5) (q0 := 0) ⟨hx, hb, hml, hown, hts⟩ (c_X4_takeNow l D cI cJ cG H.size R m_ md_ mw_ mv_ mk_ mr_ mo_ mf_ mb_ mx_ mp_ K n dn wn vn tk kn M wo le kd px F fc 0 rw lb hI) (cwV 0 hts gX4_sum_X4_takeNow rfl rfl rfl (by decide +kernel) ⟨Nat.le_of_ble_eq_true rfl, Nat.le_of_ble_eq_true rfl⟩) rfl rfl rfl hK hP hD hS hA rfl hl.1 rfl (Nat.le_of_ble_eq_true rfl) dX4_sum_6 ⟨Nat.le_of_ble_eq_true rfl, Nat.le_of_ble_eq_true rfl⟩ (fun u6 H locs h6 hP hD hS => ?_)
  have hP : va_P D vwCl (mwW cI cJ cG R m_ md_ mw_ mv_ mk_ mr_ mo_ mf_ mb_ mx_ mp_ K n dn wn vn tk kn M wo le kd px F fc 0 (fu (rwN dn wn vn) rw 8) lb) H := hP
  have hD : va_D A (mwW cI cJ cG R m_ md_ mw_ mv_ mk_ mr_ mo_ mf_ mb_ mx_ mp_ K n dn wn vn tk kn M wo le kd px F fc 0 (fu (rwN dn wn vn) rw 8) lb) := hD
  refine lv_aload_n hx hb dX4_sum_9 rfl (lv_at hl 0 rfl) ?_
  refine lv_iload_n hx hb dX4_sum_10 rfl (lv_at hl 1 rfl) ?_
  refine gc_Vi (As := [.int x]) (rest := []) (ci := 5) (q0 := 0) ⟨hx, hb, hml, hown, hts⟩ (c_X4_isKind l D cI cJ cG H.size R m_ md_ mw_ mv_ mk_ mr_ mo_ mf_ mb_ mx_ mp_ K n dn wn vn tk kn M wo le kd px F fc 0 (fu (rwN dn wn vn) rw 8) lb x (MI_rw hI (nr_le hrw))) (cwV 1 hts gX4_sum_X4_isKind rfl rfl rfl (by decide +kernel) ⟨Nat.le_of_ble_eq_true rfl, Nat.le_of_ble_eq_true rfl⟩) rfl rfl rfl hK hP hD hS hA rfl hl.1 rfl (Nat.le_of_ble_eq_true rfl) dX4_sum_11 ⟨Nat.le_of_ble_eq_true rfl, Nat.le_of_ble_eq_true rfl⟩ (fun r11 u11 H locs h11 hP hD hS => ?_)
  subst h11
  have hP : va_P D vwCl (mwW cI cJ cG R m_ md_ mw_ mv_ mk_ mr_ mo_ mf_ mb_ mx_ mp_ K n dn wn vn tk kn M wo le kd px F fc 0 (fu (rwN dn wn vn) rw 8) lb) H := hP
  have hD : va_D A (mwW cI cJ cG R m_ md_ mw_ mv_ mk_ mr_ mo_ mf_ mb_ mx_ mp_ K n dn wn vn tk kn M wo le kd px F fc 0 (fu (rwN dn wn vn) rw 8) lb) := hD
  refine lv_if_eq (tgt := 26) hx hb dX4_sum_14 (by decide) (fun c14 => ?_) (fun c14 => ?_)
  · skip
    have hB14 := bI_0.mp c14
    refine lv_ldc2 (v := -1) hx hb hown (hts (.constantLong RX4 82 (-1)) (by decide +kernel)) dX4_sum_26 ?_
    subst hQe
    subst hAe
    subst hsz
    exact g_lret hx hb hr hlocks () (by rw [hB14]; rfl) hP hK hD hS dX4_sum_29
  · skip
    have hB14 := bI_n0.mp c14
    obtain ⟨a, ha_, rfl⟩ := inB_of hB14 (by omega)
    refine lv_aload_n hx hb dX4_sum_17 rfl (lv_at hl 0 rfl) ?_
    refine lv_iload_n hx hb dX4_sum_18 rfl (lv_at hl 1 rfl) ?_
    refine lv_iconst (v := -1) hx hb dX4_sum_19 (by decide) ?_
    refine gc_Vl (As := [.int (nI a), .int (-1)]) (rest := []) (ci := 5) (q0 := 0) ⟨hx, hb, hml, hown, hts⟩ (c_X4_sumOf l D cI cJ cG H.size R m_ md_ mw_ mv_ mk_ mr_ mo_ mf_ mb_ mx_ mp_ K n dn wn vn tk kn M wo le kd px F fc 0 (fu (rwN dn wn vn) rw 8) lb a (-1) (by omega) (MI_rw hI (nr_le hrw))) (cwV 2 hts gX4_sum_X4_sumOf rfl rfl rfl (by decide +kernel) ⟨Nat.le_of_ble_eq_true rfl, Nat.le_of_ble_eq_true rfl⟩) rfl rfl rfl hK hP hD hS hA rfl hl.1 rfl (Nat.le_of_ble_eq_true rfl) dX4_sum_20 ⟨Nat.le_of_ble_eq_true rfl, Nat.le_of_ble_eq_true rfl⟩ (fun r20 u20 H locs h20 hP hD hS => ?_)
    subst h20
    have hP : va_P D vwCl (mwW cI cJ cG R m_ md_ mw_ mv_ mk_ mr_ mo_ mf_ mb_ mx_ mp_ K n dn wn vn tk kn M wo le kd px F fc 0 (fu (rwN dn wn vn) rw 8) lb) H := hP
    have hD : va_D A (mwW cI cJ cG R m_ md_ mw_ mv_ mk_ mr_ mo_ mf_ mb_ mx_ mp_ K n dn wn vn tk kn M wo le kd px F fc 0 (fu (rwN dn wn vn) rw 8) lb) := hD
    refine lv_goto (tgt := 29) hx hb dX4_sum_23 (by decide) ?_
    subst hQe
    subst hAe
    subst hsz
    exact g_lret hx hb hr hlocks () (by rw [hB14, nI_clamp (by omega)]; rfl) hP hK hD hS dX4_sum_29
abbrev rX4_bound : Room := { frames := 0, cells := 0, slots := 0, locals := 0 }
set_option maxHeartbeats 4000000 in
set_option maxRecDepth 100000 in
theorem c_X4_bound (l : Launch) (D : va_G) (cI cJ cG : ClassId) (sz : Nat) (R : va_W) (m_ md_ mw_ mv_ mk_ mr_ mo_ mf_ mb_ mx_ mp_ : Nat) (K : Nat) (n : Nat) (dn : Nat → Nat) (wn : Nat → Nat) (vn : Nat → Nat) (tk : Int64) (kn : Nat → Nat) (M : Nat → Nat → Nat) (wo : Nat → Int64) (le : Int64) (kd : Nat → Nat) (px : Nat) (F : Nat → Nat) (fc : Nat) (ft : Nat) (rw : Nat → Nat) (lb : Nat → Nat) (x : Int64) : Met l yX4_bound wsX4_bound rX4_bound (gP D (tyl cI cJ cG) [.ref m_, .long x] (mwW cI cJ cG R m_ md_ mw_ mv_ mk_ mr_ mo_ mf_ mb_ mx_ mp_ K n dn wn vn tk kn M wo le kd px F fc ft rw lb) sz) (gQi D (tyl cI cJ cG) (mwW cI cJ cG R m_ md_ mw_ mv_ mk_ mr_ mo_ mf_ mb_ mx_ mp_ K n dn wn vn tk kn M wo le kd px F fc ft rw lb) sz (fun r (u : Int64) => r = bI (bdB x) ∧ u = if bdB x = true then x else le) (fun u => (mwW cI cJ cG R m_ md_ mw_ mv_ mk_ mr_ mo_ mf_ mb_ mx_ mp_ K n dn wn vn tk kn M wo u kd px F fc 0 rw lb))) 0 0 (va_A (mwW cI cJ cG R m_ md_ mw_ mv_ mk_ mr_ mo_ mf_ mb_ mx_ mp_ K n dn wn vn tk kn M wo le kd px F fc ft rw lb) sz) := by
  refine gMet (cc := cX4_bound) (maxL := 3) (ret := (some .boolean)) (ls0 := [(0, .ref m_), (1, .long x)]) (by decide) rfl (Nat.le_of_ble_eq_true rfl) rfl ?_
  intro p e s m below meth c hx hb hr hts hown hlocks hml hname A hA hAe hsz Q hQe H locs hP hK hD hS ls hl
  have hown : s.vm.findClass RX4 = some m.cls := hown
  have in_X4 : ∀ w ∈ wsX40, w ∈ wsX4_bound := by decide +kernel
  have f_49 := hts (.fieldLink RX4 49 "SpectrumHeadsModel" "fault" "I") (by decide +kernel)
  have f_25 := hts (.fieldLink RX4 25 "SpectrumHeadsModel" "least" "J") (by decide +kernel)
  refine lv_aload_n hx hb dX4_bound_0 rfl (lv_at hl 0 rfl) ?_
  refine lv_iconst (v := 0) hx hb dX4_bound_1 (by decide) ?_
  refine va_put (D := D) (ci := 5) (v := .int 0) (ty := .int) (C := RX4) (T := TX4) (N := 17) hx hb hts in_X4 tyX4 tyX4_ok nmX4 hown hK hP hD hS 0 rfl rfl 14 (by decide) f_49 (fun _ h9 => h9) rfl (by decide +kernel) rfl rfl (Nat.le_of_ble_eq_true rfl) dX4_bound_2 (fun H locs hP hD hS => ?_)
  have hP : va_P D vwCl (mwW cI cJ cG R m_ md_ mw_ mv_ mk_ mr_ mo_ mf_ mb_ mx_ mp_ K n dn wn vn tk kn M wo le kd px F fc 0 rw lb) H := hP
  have hD : va_D A (mwW cI cJ cG R m_ md_ mw_ mv_ mk_ mr_ mo_ mf_ mb_ mx_ mp_ K n dn wn vn tk kn M wo le kd px F fc 0 rw lb) := hD
  refine lv_lload_n hx hb dX4_bound_5 rfl (lv_at hl 1 rfl) ?_
  refine lv_lconst (v := 0) hx hb dX4_bound_6 (by decide) ?_
  refine W.lcmp hx hb dX4_bound_7 ?_
  refine lv_if_lt (tgt := 19) hx hb dX4_bound_8 (by decide) (fun c8 => ?_) (fun c8 => ?_)
  · skip
    have hB := bdB_f1 ((lg_cmp_lt _ _).mp c8)
    refine lv_iconst (v := 0) hx hb dX4_bound_19 (by decide) ?_
    subst hQe
    subst hAe
    subst hsz
    exact g_zret hx hb hr hlocks rfl le ⟨by rw [hB]; rfl, by rw [hB]; rfl⟩ hP hK hD hS dX4_bound_20
  · skip
    have h3 : ¬ x < 0 := fun h => c8 ((lg_cmp_lt _ _).mpr h)
    refine lv_lload_n hx hb dX4_bound_11 rfl (lv_at hl 1 rfl) ?_
    refine lv_ldc2 (v := 10000) hx hb hown (hts (.constantLong RX4 84 (10000)) (by decide +kernel)) dX4_bound_12 ?_
    refine W.lcmp hx hb dX4_bound_15 ?_
    refine lv_if_le (tgt := 21) hx hb dX4_bound_16 (by decide) (fun c16 => ?_) (fun c16 => ?_)
    · skip
      have hB := bdB_t h3 ((lg_cmp_le _ _).mp c16)
      refine lv_aload_n hx hb dX4_bound_21 rfl (lv_at hl 0 rfl) ?_
      refine lv_lload_n hx hb dX4_bound_22 rfl (lv_at hl 1 rfl) ?_
      refine va_put (D := D) (ci := 5) (v := .long x) (ty := .long) (C := RX4) (T := TX4) (N := 17) hx hb hts in_X4 tyX4 tyX4_ok nmX4 hown hK hP hD hS 0 rfl rfl 8 (by decide) f_25 (fun _ h9 => h9) rfl (by decide +kernel) rfl rfl (Nat.le_of_ble_eq_true rfl) dX4_bound_23 (fun H locs hP hD hS => ?_)
      have hP : va_P D vwCl (mwW cI cJ cG R m_ md_ mw_ mv_ mk_ mr_ mo_ mf_ mb_ mx_ mp_ K n dn wn vn tk kn M wo x kd px F fc 0 rw lb) H := hP
      have hD : va_D A (mwW cI cJ cG R m_ md_ mw_ mv_ mk_ mr_ mo_ mf_ mb_ mx_ mp_ K n dn wn vn tk kn M wo x kd px F fc 0 rw lb) := hD
      refine lv_iconst (v := 1) hx hb dX4_bound_26 (by decide) ?_
      subst hQe
      subst hAe
      subst hsz
      exact g_zret hx hb hr hlocks rfl x ⟨by rw [hB]; rfl, by rw [hB]; rfl⟩ hP hK hD hS dX4_bound_27
    · skip
      have hB := bdB_f2 (fun h => c16 ((lg_cmp_le _ _).mpr h))
      refine lv_iconst (v := 0) hx hb dX4_bound_19 (by decide) ?_
      subst hQe
      subst hAe
      subst hsz
      exact g_zret hx hb hr hlocks rfl le ⟨by rw [hB]; rfl, by rw [hB]; rfl⟩ hP hK hD hS dX4_bound_20
abbrev rX4_worth : Room := { frames := 1, cells := 0, slots := 0, locals := 21 }
set_option maxHeartbeats 4000000 in
set_option maxRecDepth 100000 in
theorem c_X4_worth (l : Launch) (D : va_G) (cI cJ cG : ClassId) (sz : Nat) (R : va_W) (m_ md_ mw_ mv_ mk_ mr_ mo_ mf_ mb_ mx_ mp_ : Nat) (K : Nat) (n : Nat) (dn : Nat → Nat) (wn : Nat → Nat) (vn : Nat → Nat) (tk : Int64) (kn : Nat → Nat) (M : Nat → Nat → Nat) (wo : Nat → Int64) (le : Int64) (kd : Nat → Nat) (px : Nat) (F : Nat → Nat) (fc : Nat) (ft : Nat) (rw : Nat → Nat) (lb : Nat → Nat) (x : Int32) (y : Int64) (hI : MI K n dn wn vn kn M kd px F fc rw lb) : Met l yX4_worth wsX4_worth rX4_worth (gP D (tyl cI cJ cG) [.ref m_, .int x, .long y] (mwW cI cJ cG R m_ md_ mw_ mv_ mk_ mr_ mo_ mf_ mb_ mx_ mp_ K n dn wn vn tk kn M wo le kd px F fc ft rw lb) sz) (gQi D (tyl cI cJ cG) (mwW cI cJ cG R m_ md_ mw_ mv_ mk_ mr_ mo_ mf_ mb_ mx_ mp_ K n dn wn vn tk kn M wo le kd px F fc ft rw lb) sz (fun r (u : Nat → Int64) => r = bI (inB x K && wtB y) ∧ u = if (inB x K && wtB y) = true then vp_updL wo x.toNatClampNeg y else wo) (fun u => (mwW cI cJ cG R m_ md_ mw_ mv_ mk_ mr_ mo_ mf_ mb_ mx_ mp_ K n dn wn vn tk kn M u le kd px F fc 0 rw lb))) 0 0 (va_A (mwW cI cJ cG R m_ md_ mw_ mv_ mk_ mr_ mo_ mf_ mb_ mx_ mp_ K n dn wn vn tk kn M wo le kd px F fc ft rw lb) sz) := by
  refine gMet (cc := cX4_worth) (maxL := 4) (ret := (some .boolean)) (ls0 := [(0, .ref m_), (1, .int x), (2, .long y)]) (by decide) rfl (Nat.le_of_ble_eq_true rfl) rfl ?_
  intro p e s m below meth c hx hb hr hts hown hlocks hml hname A hA hAe hsz Q hQe H locs hP hK hD hS ls hl
  have hown : s.vm.findClass RX4 = some m.cls := hown
  have in_X4 : ∀ w ∈ wsX40, w ∈ wsX4_worth := by decide +kernel
  have f_49 := hts (.fieldLink RX4 49 "SpectrumHeadsModel" "fault" "I") (by decide +kernel)
  have f_29 := hts (.fieldLink RX4 29 "SpectrumHeadsModel" "worths" "[J") (by decide +kernel)
  obtain ⟨⟨hK1, hK4⟩, hn, ⟨hdn, hwn, hvn⟩, ⟨hkn, hM⟩, ⟨hkd, hpx, hlb⟩, ⟨hF, hfc⟩, hrw⟩ := id hI
  refine lv_aload_n hx hb dX4_worth_0 rfl (lv_at hl 0 rfl) ?_
  refine lv_iconst (v := 0) hx hb dX4_worth_1 (by decide) ?_
  refine va_put (D := D) (ci := 5) (v := .int 0) (ty := .int) (C := RX4) (T := TX4) (N := 17) hx hb hts in_X4 tyX4 tyX4_ok nmX4 hown hK hP hD hS 0 rfl rfl 14 (by decide) f_49 (fun _ h9 => h9) rfl (by decide +kernel) rfl rfl (Nat.le_of_ble_eq_true rfl) dX4_worth_2 (fun H locs hP hD hS => ?_)
  have hP : va_P D vwCl (mwW cI cJ cG R m_ md_ mw_ mv_ mk_ mr_ mo_ mf_ mb_ mx_ mp_ K n dn wn vn tk kn M wo le kd px F fc 0 rw lb) H := hP
  have hD : va_D A (mwW cI cJ cG R m_ md_ mw_ mv_ mk_ mr_ mo_ mf_ mb_ mx_ mp_ K n dn wn vn tk kn M wo le kd px F fc 0 rw lb) := hD
  refine lv_aload_n hx hb dX4_worth_5 rfl (lv_at hl 0 rfl) ?_
  refine lv_iload_n hx hb dX4_worth_6 rfl (lv_at hl 1 rfl) ?_
  refine gc_Vi (As := [.int x]) (rest := []) (ci := 5) (q0 := 0) ⟨hx, hb, hml, hown, hts⟩ (c_X4_isKind l D cI cJ cG H.size R m_ md_ mw_ mv_ mk_ mr_ mo_ mf_ mb_ mx_ mp_ K n dn wn vn tk kn M wo le kd px F fc 0 rw lb x hI) (cwV 1 hts gX4_worth_X4_isKind rfl rfl rfl (by decide +kernel) ⟨Nat.le_of_ble_eq_true rfl, Nat.le_of_ble_eq_true rfl⟩) rfl rfl rfl hK hP hD hS hA rfl hl.1 rfl (Nat.le_of_ble_eq_true rfl) dX4_worth_7 ⟨Nat.le_of_ble_eq_true rfl, Nat.le_of_ble_eq_true rfl⟩ (fun r7 u7 H locs h7 hP hD hS => ?_)
  subst h7
  have hP : va_P D vwCl (mwW cI cJ cG R m_ md_ mw_ mv_ mk_ mr_ mo_ mf_ mb_ mx_ mp_ K n dn wn vn tk kn M wo le kd px F fc 0 rw lb) H := hP
  have hD : va_D A (mwW cI cJ cG R m_ md_ mw_ mv_ mk_ mr_ mo_ mf_ mb_ mx_ mp_ K n dn wn vn tk kn M wo le kd px F fc 0 rw lb) := hD
  refine lv_if_eq (tgt := 27) hx hb dX4_worth_10 (by decide) (fun c10 => ?_) (fun c10 => ?_)
  · skip
    have hB10 := bI_0.mp c10
    have hB : (inB x K && wtB y) = false := by rw [hB10]; rfl
    refine lv_iconst (v := 0) hx hb dX4_worth_27 (by decide) ?_
    subst hQe
    subst hAe
    subst hsz
    exact g_zret hx hb hr hlocks rfl wo ⟨by rw [hB]; rfl, by rw [hB]; rfl⟩ hP hK hD hS dX4_worth_28
  · skip
    have hB10 := bI_n0.mp c10
    refine lv_lload_n hx hb dX4_worth_13 rfl (lv_at hl 2 rfl) ?_
    refine lv_lconst (v := 0) hx hb dX4_worth_14 (by decide) ?_
    refine W.lcmp hx hb dX4_worth_15 ?_
    refine lv_if_lt (tgt := 27) hx hb dX4_worth_16 (by decide) (fun c16 => ?_) (fun c16 => ?_)
    · skip
      have hB : (inB x K && wtB y) = false := by rw [wtB_f1 ((lg_cmp_lt _ _).mp c16), Bool.and_false]
      refine lv_iconst (v := 0) hx hb dX4_worth_27 (by decide) ?_
      subst hQe
      subst hAe
      subst hsz
      exact g_zret hx hb hr hlocks rfl wo ⟨by rw [hB]; rfl, by rw [hB]; rfl⟩ hP hK hD hS dX4_worth_28
    · skip
      have h3 : ¬ y < 0 := fun h => c16 ((lg_cmp_lt _ _).mpr h)
      refine lv_lload_n hx hb dX4_worth_19 rfl (lv_at hl 2 rfl) ?_
      refine lv_ldc2 (v := 1000000) hx hb hown (hts (.constantLong RX4 86 (1000000)) (by decide +kernel)) dX4_worth_20 ?_
      refine W.lcmp hx hb dX4_worth_23 ?_
      refine lv_if_le (tgt := 29) hx hb dX4_worth_24 (by decide) (fun c24 => ?_) (fun c24 => ?_)
      · skip
        have hB : (inB x K && wtB y) = true := by rw [hB10, wtB_t h3 ((lg_cmp_le _ _).mp c24)]; rfl
        refine lv_aload_n hx hb dX4_worth_29 rfl (lv_at hl 0 rfl) ?_
        refine va_get (D := D) (ci := 5) (v := .ref mo_) (C := RX4) (T := TX4) (N := 17) hx hb hts in_X4 hown hK hP 0 rfl rfl 9 (by decide) f_29 (fun _ h9 => h9) rfl dX4_worth_30 ?_
        refine lv_iload_n hx hb dX4_worth_33 rfl (lv_at hl 1 rfl) ?_
        refine lv_lload_n hx hb dX4_worth_34 rfl (lv_at hl 2 rfl) ?_
        refine va_last hx hb hK hP hD hS 6 1 rfl rfl (inB_v4 hB10 hK4) dX4_worth_35 (fun H locs hP hD hS => ?_)
        have hP : va_P D vwCl (mwW cI cJ cG R m_ md_ mw_ mv_ mk_ mr_ mo_ mf_ mb_ mx_ mp_ K n dn wn vn tk kn M (vp_updL wo (x).toNatClampNeg y) le kd px F fc 0 rw lb) H := hP
        have hD : va_D A (mwW cI cJ cG R m_ md_ mw_ mv_ mk_ mr_ mo_ mf_ mb_ mx_ mp_ K n dn wn vn tk kn M (vp_updL wo (x).toNatClampNeg y) le kd px F fc 0 rw lb) := hD
        refine lv_iconst (v := 1) hx hb dX4_worth_36 (by decide) ?_
        subst hQe
        subst hAe
        subst hsz
        exact g_zret hx hb hr hlocks rfl (vp_updL wo x.toNatClampNeg y) ⟨by rw [hB]; rfl, by rw [hB]; rfl⟩ hP hK hD hS dX4_worth_37
      · skip
        have hB : (inB x K && wtB y) = false := by rw [wtB_f2 (fun h => c24 ((lg_cmp_le _ _).mpr h)), Bool.and_false]
        refine lv_iconst (v := 0) hx hb dX4_worth_27 (by decide) ?_
        subst hQe
        subst hAe
        subst hsz
        exact g_zret hx hb hr hlocks rfl wo ⟨by rw [hB]; rfl, by rw [hB]; rfl⟩ hP hK hD hS dX4_worth_28
abbrev rX4_teach : Room := { frames := 2, cells := 0, slots := 0, locals := 43 }
set_option maxHeartbeats 4000000 in
set_option maxRecDepth 100000 in
theorem c_X4_teach (l : Launch) (D : va_G) (cI cJ cG : ClassId) (sz : Nat) (R : va_W) (m_ md_ mw_ mv_ mk_ mr_ mo_ mf_ mb_ mx_ mp_ : Nat) (K : Nat) (n : Nat) (dn : Nat → Nat) (wn : Nat → Nat) (vn : Nat → Nat) (tk : Int64) (kn : Nat → Nat) (M : Nat → Nat → Nat) (wo : Nat → Int64) (le : Int64) (kd : Nat → Nat) (px : Nat) (F : Nat → Nat) (fc : Nat) (ft : Nat) (rw : Nat → Nat) (lb : Nat → Nat) (x : Int32) (hI : MI K n dn wn vn kn M kd px F fc rw lb) : Met l yX4_teach wsX4_teach rX4_teach (gP D (tyl cI cJ cG) [.ref m_, .int x] (mwW cI cJ cG R m_ md_ mw_ mv_ mk_ mr_ mo_ mf_ mb_ mx_ mp_ K n dn wn vn tk kn M wo le kd px F fc ft rw lb) sz) (gQi D (tyl cI cJ cG) (mwW cI cJ cG R m_ md_ mw_ mv_ mk_ mr_ mo_ mf_ mb_ mx_ mp_ K n dn wn vn tk kn M wo le kd px F fc ft rw lb) sz (fun r (u : (Nat × (Nat → Nat) × (Nat → Nat → Nat)) × (Nat → Nat)) => (r = if (inB x K && decide (n < 40)) = true then nI n else -1) ∧ (u.1 = if (inB x K && decide (n < 40)) = true then (n + 1, un kn n x.toNatClampNeg, tcM dn wn vn M n) else (n, kn, M)) ∧ (∀ k, u.2 k ≤ 255)) (fun u => (mwW cI cJ cG R m_ md_ mw_ mv_ mk_ mr_ mo_ mf_ mb_ mx_ mp_ K u.1.1 dn wn vn tk u.1.2.1 u.1.2.2 wo le kd px F fc 0 u.2 lb))) 0 0 (va_A (mwW cI cJ cG R m_ md_ mw_ mv_ mk_ mr_ mo_ mf_ mb_ mx_ mp_ K n dn wn vn tk kn M wo le kd px F fc ft rw lb) sz) := by
  refine gMet (cc := cX4_teach) (maxL := 3) (ret := (some .int)) (ls0 := [(0, .ref m_), (1, .int x)]) (by decide) rfl (Nat.le_of_ble_eq_true rfl) rfl ?_
  intro p e s m below meth c hx hb hr hts hown hlocks hml hname A hA hAe hsz Q hQe H locs hP hK hD hS ls hl
  have hown : s.vm.findClass RX4 = some m.cls := hown
  have in_X4 : ∀ w ∈ wsX40, w ∈ wsX4_teach := by decide +kernel
  have f_49 := hts (.fieldLink RX4 49 "SpectrumHeadsModel" "fault" "I") (by decide +kernel)
  have f_66 := hts (.fieldLink RX4 66 "SpectrumHeadsModel" "taught" "I") (by decide +kernel)
  have f_19 := hts (.fieldLink RX4 19 "SpectrumHeadsModel" "taughtKind" "[I") (by decide +kernel)
  have f_22 := hts (.fieldLink RX4 22 "SpectrumHeadsModel" "taughtRow" "[I") (by decide +kernel)
  have f_39 := hts (.fieldLink RX4 39 "SpectrumHeadsModel" "row" "[I") (by decide +kernel)
  obtain ⟨⟨hK1, hK4⟩, hn, ⟨hdn, hwn, hvn⟩, ⟨hkn, hM⟩, ⟨hkd, hpx, hlb⟩, ⟨hF, hfc⟩, hrw⟩ := id hI
  refine lv_aload_n hx hb dX4_teach_0 rfl (lv_at hl 0 rfl) ?_
  refine lv_iconst (v := 0) hx hb dX4_teach_1 (by decide) ?_
  refine va_put (D := D) (ci := 5) (v := .int 0) (ty := .int) (C := RX4) (T := TX4) (N := 17) hx hb hts in_X4 tyX4 tyX4_ok nmX4 hown hK hP hD hS 0 rfl rfl 14 (by decide) f_49 (fun _ h9 => h9) rfl (by decide +kernel) rfl rfl (Nat.le_of_ble_eq_true rfl) dX4_teach_2 (fun H locs hP hD hS => ?_)
  have hP : va_P D vwCl (mwW cI cJ cG R m_ md_ mw_ mv_ mk_ mr_ mo_ mf_ mb_ mx_ mp_ K n dn wn vn tk kn M wo le kd px F fc 0 rw lb) H := hP
  have hD : va_D A (mwW cI cJ cG R m_ md_ mw_ mv_ mk_ mr_ mo_ mf_ mb_ mx_ mp_ K n dn wn vn tk kn M wo le kd px F fc 0 rw lb) := hD
  refine lv_aload_n hx hb dX4_teach_5 rfl (lv_at hl 0 rfl) ?_
  refine lv_iload_n hx hb dX4_teach_6 rfl (lv_at hl 1 rfl) ?_
  refine gc_Vi (As := [.int x]) (rest := []) (ci := 5) (q0 := 0) ⟨hx, hb, hml, hown, hts⟩ (c_X4_isKind l D cI cJ cG H.size R m_ md_ mw_ mv_ mk_ mr_ mo_ mf_ mb_ mx_ mp_ K n dn wn vn tk kn M wo le kd px F fc 0 rw lb x hI) (cwV 1 hts gX4_teach_X4_isKind rfl rfl rfl (by decide +kernel) ⟨Nat.le_of_ble_eq_true rfl, Nat.le_of_ble_eq_true rfl⟩) rfl rfl rfl hK hP hD hS hA rfl hl.1 rfl (Nat.le_of_ble_eq_true rfl) dX4_teach_7 ⟨Nat.le_of_ble_eq_true rfl, Nat.le_of_ble_eq_true rfl⟩ (fun r7 u7 H locs h7 hP hD hS => ?_)
  subst h7
  have hP : va_P D vwCl (mwW cI cJ cG R m_ md_ mw_ mv_ mk_ mr_ mo_ mf_ mb_ mx_ mp_ K n dn wn vn tk kn M wo le kd px F fc 0 rw lb) H := hP
  have hD : va_D A (mwW cI cJ cG R m_ md_ mw_ mv_ mk_ mr_ mo_ mf_ mb_ mx_ mp_ K n dn wn vn tk kn M wo le kd px F fc 0 rw lb) := hD
  refine lv_if_eq (tgt := 22) hx hb dX4_teach_10 (by decide) (fun c10 => ?_) (fun c10 => ?_)
  · skip
    have hB10 := bI_0.mp c10
    have hB : (inB x K && decide (n < 40)) = false := by rw [hB10]; rfl
    refine lv_iconst (v := -1) hx hb dX4_teach_22 (by decide) ?_
    subst hQe
    subst hAe
    subst hsz
    exact g_iret hx hb hr hlocks ((n, kn, M), rw) ⟨by rw [hB]; rfl, by rw [hB]; rfl, hrw⟩ hP hK hD hS dX4_teach_23
  · skip
    have hB10 := bI_n0.mp c10
    obtain ⟨a, ha_, rfl⟩ := inB_of hB10 (by omega)
    refine lv_aload_n hx hb dX4_teach_13 rfl (lv_at hl 0 rfl) ?_
    refine va_get (D := D) (ci := 5) (v := .int (nI n)) (C := RX4) (T := TX4) (N := 17) hx hb hts in_X4 hown hK hP 0 rfl rfl 5 (by decide) f_66 (fun _ h9 => h9) rfl dX4_teach_14 ?_
    refine lv_bipush (v := 40) hx hb dX4_teach_17 (by decide) ?_
    refine lv_icmp_ne (tgt := 24) hx hb dX4_teach_19 (by decide) (fun c19 => ?_) (fun c19 => ?_)
    · skip
      have hn4 : n < 40 := by have : ¬ n = 40 := fun h => c19 (by rw [h]; rfl); omega
      have hB : (inB (nI a) K && decide (n < 40)) = true := by rw [hB10, decide_eq_true hn4]; rfl
      refine lv_aload_n hx hb dX4_teach_24 rfl (lv_at hl 0 rfl) ?_
      refine gc_Vv (As := []) (rest := []) (ci := 5) (q0 := 0) ⟨hx, hb, hml, hown, hts⟩ (c_X4_takeNow l D cI cJ cG H.size R m_ md_ mw_ mv_ mk_ mr_ mo_ mf_ mb_ mx_ mp_ K n dn wn vn tk kn M wo le kd px F fc 0 rw lb hI) (cwV 0 hts gX4_teach_X4_takeNow rfl rfl rfl (by decide +kernel) ⟨Nat.le_of_ble_eq_true rfl, Nat.le_of_ble_eq_true rfl⟩) rfl rfl rfl hK hP hD hS hA rfl hl.1 rfl (Nat.le_of_ble_eq_true rfl) dX4_teach_25 ⟨Nat.le_of_ble_eq_true rfl, Nat.le_of_ble_eq_true rfl⟩ (fun u25 H locs h25 hP hD hS => ?_)
      have hP : va_P D vwCl (mwW cI cJ cG R m_ md_ mw_ mv_ mk_ mr_ mo_ mf_ mb_ mx_ mp_ K n dn wn vn tk kn M wo le kd px F fc 0 (fu (rwN dn wn vn) rw 8) lb) H := hP
      have hD : va_D A (mwW cI cJ cG R m_ md_ mw_ mv_ mk_ mr_ mo_ mf_ mb_ mx_ mp_ K n dn wn vn tk kn M wo le kd px F fc 0 (fu (rwN dn wn vn) rw 8) lb) := hD
      have hP : va_P D vwCl (mwW cI cJ cG R m_ md_ mw_ mv_ mk_ mr_ mo_ mf_ mb_ mx_ mp_ K n dn wn vn tk kn (un M n (fu (fu (rwN dn wn vn) rw 8) (M n) 0)) wo le kd px F fc 0 (fu (rwN dn wn vn) rw 8) lb) H := by rw [fu_0 (g := (fu (rwN dn wn vn) rw 8)), un_self]; exact hP
      have hD : va_D A (mwW cI cJ cG R m_ md_ mw_ mv_ mk_ mr_ mo_ mf_ mb_ mx_ mp_ K n dn wn vn tk kn (un M n (fu (fu (rwN dn wn vn) rw 8) (M n) 0)) wo le kd px F fc 0 (fu (rwN dn wn vn) rw 8) lb) := by rw [fu_0 (g := (fu (rwN dn wn vn) rw 8)), un_self]; exact hD
      refine lv_iconst (v := 0) hx hb dX4_teach_28 (by decide) ?_
      refine lv_istore_n (lv' := [(2, .int 0), (0, .ref m_), (1, .int (nI a))]) hx hb dX4_teach_29 rfl hl (by decide) rfl (fun ls hl => ?_)
      have L_30 : ∀ (n_30 : Nat) (k : Nat) (hk : k ≤ 8), 8 - k < n_30 → ∀ (H : Heap) (locs : List Loc) (ls : Array Slot), va_P D vwCl (mwW cI cJ cG R m_ md_ mw_ mv_ mk_ mr_ mo_ mf_ mb_ mx_ mp_ K n dn wn vn tk kn (un M n (fu (fu (rwN dn wn vn) rw 8) (M n) k)) wo le kd px F fc 0 (fu (rwN dn wn vn) rw 8) lb) H → va_D A (mwW cI cJ cG R m_ md_ mw_ mv_ mk_ mr_ mo_ mf_ mb_ mx_ mp_ K n dn wn vn tk kn (un M n (fu (fu (rwN dn wn vn) rw 8) (M n) k)) wo le kd px F fc 0 (fu (rwN dn wn vn) rw 8) lb) → va_S A s.heap H locs → lv_has ls 3 [(2, .int (nI k)), (0, .ref m_), (1, .int (nI a))] → W p l e (headSpec wsX4_teach rX4_teach).room s m ([.ref m_, .int (nI a)] : List Value).toArray below meth c H locs 0 0 Q (F0 m 30 ls []) := by
        intro n_30
        induction n_30 with
        | zero => intro k hk hn_; exact absurd hn_ (Nat.not_lt_zero _)
        | succ n_30 ih_30 =>
          intro k hk hn_30 H locs ls hP hD hS hl
          refine lv_iload_n hx hb dX4_teach_30 rfl (lv_at hl 0 rfl) ?_
          refine lv_bipush (v := 8) hx hb dX4_teach_31 (by decide) ?_
          refine lv_icmp_ge (tgt := 62) hx hb dX4_teach_33 (by decide) (fun c33 => ?_) (fun c33 => ?_)
          · skip
            have hE33 := lp_e (n := 8) c33 hk
            subst hE33
            refine lv_aload_n hx hb dX4_teach_62 rfl (lv_at hl 1 rfl) ?_
            refine va_get (D := D) (ci := 5) (v := .ref mk_) (C := RX4) (T := TX4) (N := 17) hx hb hts in_X4 hown hK hP 0 rfl rfl 6 (by decide) f_19 (fun _ h9 => h9) rfl dX4_teach_63 ?_
            refine lv_aload_n hx hb dX4_teach_66 rfl (lv_at hl 1 rfl) ?_
            refine va_get (D := D) (ci := 5) (v := .int (nI n)) (C := RX4) (T := TX4) (N := 17) hx hb hts in_X4 hown hK hP 0 rfl rfl 5 (by decide) f_66 (fun _ h9 => h9) rfl dX4_teach_67 ?_
            refine lv_iload_n hx hb dX4_teach_70 rfl (lv_at hl 2 rfl) ?_
            refine va_iast hx hb hK hP hD hS 4 0 rfl rfl (by first | exact vp_in_nI (by omega) (by omega) | assumption) dX4_teach_71 (fun H locs hP hD hS => ?_)
            rw [nI_clamp (by omega)] at hP hD
            have hP : va_P D vwCl ((m_, .inr (5, [.int (nI K), .ref md_, .ref mw_, .ref mv_, .long tk, .int (nI n), .ref mk_, .ref mr_, .long le, .ref mo_, .int (nI px), .ref mf_, .ref mb_, .int (nI fc), .int (nI 0), .ref mx_, .ref mp_])) :: (md_, .inl (cI, 8, .inl (nf dn))) :: (mw_, .inl (cI, 8, .inl (nf wn))) :: (mv_, .inl (cI, 8, .inl (nf vn))) :: (mk_, .inl (cI, 40, .inl (upd (nf kn) n (nI a)))) :: (mr_, .inl (cI, 320, .inl (nf (fM (un M n (fu (fu (rwN dn wn vn) rw 8) (M n) 8)))))) :: (mo_, .inl (cJ, 4, .inr (.inl wo))) :: (mf_, .inl (cI, 256, .inl (nf kd))) :: (mb_, .inl (cI, 400, .inl (nf F))) :: (mx_, .inl (cI, 8, .inl (nf (fu (rwN dn wn vn) rw 8)))) :: (mp_, .inl (cI, 256, .inl (l1 lb))) :: R) H := hP
            have hD : va_D A ((m_, .inr (5, [.int (nI K), .ref md_, .ref mw_, .ref mv_, .long tk, .int (nI n), .ref mk_, .ref mr_, .long le, .ref mo_, .int (nI px), .ref mf_, .ref mb_, .int (nI fc), .int (nI 0), .ref mx_, .ref mp_])) :: (md_, .inl (cI, 8, .inl (nf dn))) :: (mw_, .inl (cI, 8, .inl (nf wn))) :: (mv_, .inl (cI, 8, .inl (nf vn))) :: (mk_, .inl (cI, 40, .inl (upd (nf kn) n (nI a)))) :: (mr_, .inl (cI, 320, .inl (nf (fM (un M n (fu (fu (rwN dn wn vn) rw 8) (M n) 8)))))) :: (mo_, .inl (cJ, 4, .inr (.inl wo))) :: (mf_, .inl (cI, 256, .inl (nf kd))) :: (mb_, .inl (cI, 400, .inl (nf F))) :: (mx_, .inl (cI, 8, .inl (nf (fu (rwN dn wn vn) rw 8)))) :: (mp_, .inl (cI, 256, .inl (l1 lb))) :: R) := hD
            have hW_ : upd (nf kn) n (nI a) = nf (un kn n a) := by exact nf_upd _ _ _
            rw [hW_] at hP hD
            have hP : va_P D vwCl (mwW cI cJ cG R m_ md_ mw_ mv_ mk_ mr_ mo_ mf_ mb_ mx_ mp_ K n dn wn vn tk (un kn n a) (un M n (fu (fu (rwN dn wn vn) rw 8) (M n) 8)) wo le kd px F fc 0 (fu (rwN dn wn vn) rw 8) lb) H := hP
            have hD : va_D A (mwW cI cJ cG R m_ md_ mw_ mv_ mk_ mr_ mo_ mf_ mb_ mx_ mp_ K n dn wn vn tk (un kn n a) (un M n (fu (fu (rwN dn wn vn) rw 8) (M n) 8)) wo le kd px F fc 0 (fu (rwN dn wn vn) rw 8) lb) := hD
            refine lv_aload_n hx hb dX4_teach_72 rfl (lv_at hl 1 rfl) ?_
            refine lv_dup hx hb dX4_teach_73 rfl ?_
            refine va_get (D := D) (ci := 5) (v := .int (nI n)) (C := RX4) (T := TX4) (N := 17) hx hb hts in_X4 hown hK hP 0 rfl rfl 5 (by decide) f_66 (fun _ h9 => h9) rfl dX4_teach_74 ?_
            refine lv_iconst (v := 1) hx hb dX4_teach_77 (by decide) ?_
            refine lv_iadd hx hb dX4_teach_78 ?_
            refine lv_topi (fun x78 ex78 => ?_)
            obtain rfl : x78 = nI (n + 1) := by rw [ex78]; exact nI_1 _
            refine va_put (D := D) (ci := 5) (v := .int (nI (n + 1))) (ty := .int) (C := RX4) (T := TX4) (N := 17) hx hb hts in_X4 tyX4 tyX4_ok nmX4 hown hK hP hD hS 0 rfl rfl 5 (by decide) f_66 (fun _ h9 => h9) rfl (by decide +kernel) rfl rfl (Nat.le_of_ble_eq_true rfl) dX4_teach_79 (fun H locs hP hD hS => ?_)
            have hP : va_P D vwCl (mwW cI cJ cG R m_ md_ mw_ mv_ mk_ mr_ mo_ mf_ mb_ mx_ mp_ K (n + 1) dn wn vn tk (un kn n a) (un M n (fu (fu (rwN dn wn vn) rw 8) (M n) 8)) wo le kd px F fc 0 (fu (rwN dn wn vn) rw 8) lb) H := hP
            have hD : va_D A (mwW cI cJ cG R m_ md_ mw_ mv_ mk_ mr_ mo_ mf_ mb_ mx_ mp_ K (n + 1) dn wn vn tk (un kn n a) (un M n (fu (fu (rwN dn wn vn) rw 8) (M n) 8)) wo le kd px F fc 0 (fu (rwN dn wn vn) rw 8) lb) := hD
            refine lv_aload_n hx hb dX4_teach_82 rfl (lv_at hl 1 rfl) ?_
            refine va_get (D := D) (ci := 5) (v := .int (nI (n + 1))) (C := RX4) (T := TX4) (N := 17) hx hb hts in_X4 hown hK hP 0 rfl rfl 5 (by decide) f_66 (fun _ h9 => h9) rfl dX4_teach_83 ?_
            refine lv_iconst (v := 1) hx hb dX4_teach_86 (by decide) ?_
            refine lv_isub hx hb dX4_teach_87 ?_
            refine lv_topi (fun x87 ex87 => ?_)
            obtain rfl : x87 = nI n := by rw [ex87]; exact add_sub1 _
            subst hQe
            subst hAe
            subst hsz
            exact g_iret hx hb hr hlocks ((n + 1, un kn n a, un M n (fu (fu (rwN dn wn vn) rw 8) (M n) 8)), (fu (rwN dn wn vn) rw 8)) ⟨by rw [hB]; rfl, by rw [hB, tcM_eq, nI_clamp (by omega)]; rfl, nr_le hrw⟩ hP hK hD hS dX4_teach_88
          · skip
            have hk8 := lp_l (n := 8) c33 hk
            refine lv_aload_n hx hb dX4_teach_36 rfl (lv_at hl 1 rfl) ?_
            refine va_get (D := D) (ci := 5) (v := .ref mr_) (C := RX4) (T := TX4) (N := 17) hx hb hts in_X4 hown hK hP 0 rfl rfl 7 (by decide) f_22 (fun _ h9 => h9) rfl dX4_teach_37 ?_
            refine lv_bipush (v := 8) hx hb dX4_teach_40 (by decide) ?_
            refine lv_aload_n hx hb dX4_teach_42 rfl (lv_at hl 1 rfl) ?_
            refine va_get (D := D) (ci := 5) (v := .int (nI n)) (C := RX4) (T := TX4) (N := 17) hx hb hts in_X4 hown hK hP 0 rfl rfl 5 (by decide) f_66 (fun _ h9 => h9) rfl dX4_teach_43 ?_
            refine lv_imul hx hb dX4_teach_46 ?_
            refine lv_topi (fun x46 ex46 => ?_)
            obtain rfl : x46 = nI (8 * n) := by rw [ex46]; exact pk_mul 8 _
            refine lv_iload_n hx hb dX4_teach_47 rfl (lv_at hl 0 rfl) ?_
            refine lv_iadd hx hb dX4_teach_48 ?_
            refine lv_topi (fun x48 ex48 => ?_)
            obtain rfl : x48 = nI (8 * n + k) := by rw [ex48]; exact nI_add _ _
            refine lv_aload_n hx hb dX4_teach_49 rfl (lv_at hl 1 rfl) ?_
            refine va_get (D := D) (ci := 5) (v := .ref mx_) (C := RX4) (T := TX4) (N := 17) hx hb hts in_X4 hown hK hP 0 rfl rfl 15 (by decide) f_39 (fun _ h9 => h9) rfl dX4_teach_50 ?_
            refine lv_iload_n hx hb dX4_teach_53 rfl (lv_at hl 0 rfl) ?_
            refine va_iald hx hb hK hP (9) 0 rfl rfl (by first | exact vp_in_nI (by omega) (by omega) | assumption) dX4_teach_54 ?_
            refine lv_topi (fun x54 ex54 => ?_)
            rw [nI_clamp (by omega)] at ex54
            obtain rfl : x54 = nI ((fu (rwN dn wn vn) rw 8) k) := by exact ex54
            refine va_iast hx hb hK hP hD hS 5 0 rfl rfl (by first | exact vp_in_nI (by omega) (by omega) | assumption) dX4_teach_55 (fun H locs hP hD hS => ?_)
            rw [nI_clamp (by omega)] at hP hD
            have hP : va_P D vwCl ((m_, .inr (5, [.int (nI K), .ref md_, .ref mw_, .ref mv_, .long tk, .int (nI n), .ref mk_, .ref mr_, .long le, .ref mo_, .int (nI px), .ref mf_, .ref mb_, .int (nI fc), .int (nI 0), .ref mx_, .ref mp_])) :: (md_, .inl (cI, 8, .inl (nf dn))) :: (mw_, .inl (cI, 8, .inl (nf wn))) :: (mv_, .inl (cI, 8, .inl (nf vn))) :: (mk_, .inl (cI, 40, .inl (nf kn))) :: (mr_, .inl (cI, 320, .inl (upd (nf (fM (un M n (fu (fu (rwN dn wn vn) rw 8) (M n) k)))) (8 * n + k) (nI ((fu (rwN dn wn vn) rw 8) k))))) :: (mo_, .inl (cJ, 4, .inr (.inl wo))) :: (mf_, .inl (cI, 256, .inl (nf kd))) :: (mb_, .inl (cI, 400, .inl (nf F))) :: (mx_, .inl (cI, 8, .inl (nf (fu (rwN dn wn vn) rw 8)))) :: (mp_, .inl (cI, 256, .inl (l1 lb))) :: R) H := hP
            have hD : va_D A ((m_, .inr (5, [.int (nI K), .ref md_, .ref mw_, .ref mv_, .long tk, .int (nI n), .ref mk_, .ref mr_, .long le, .ref mo_, .int (nI px), .ref mf_, .ref mb_, .int (nI fc), .int (nI 0), .ref mx_, .ref mp_])) :: (md_, .inl (cI, 8, .inl (nf dn))) :: (mw_, .inl (cI, 8, .inl (nf wn))) :: (mv_, .inl (cI, 8, .inl (nf vn))) :: (mk_, .inl (cI, 40, .inl (nf kn))) :: (mr_, .inl (cI, 320, .inl (upd (nf (fM (un M n (fu (fu (rwN dn wn vn) rw 8) (M n) k)))) (8 * n + k) (nI ((fu (rwN dn wn vn) rw 8) k))))) :: (mo_, .inl (cJ, 4, .inr (.inl wo))) :: (mf_, .inl (cI, 256, .inl (nf kd))) :: (mb_, .inl (cI, 400, .inl (nf F))) :: (mx_, .inl (cI, 8, .inl (nf (fu (rwN dn wn vn) rw 8)))) :: (mp_, .inl (cI, 256, .inl (l1 lb))) :: R) := hD
            have hW_ : upd (nf (fM (un M n (fu (fu (rwN dn wn vn) rw 8) (M n) k)))) (8 * n + k) (nI ((fu (rwN dn wn vn) rw 8) k)) = nf (fM (un M n (fu (fu (rwN dn wn vn) rw 8) (M n) (k + 1)))) := by rw [nf_upd]; exact congrArg nf (fM_step hk8)
            rw [hW_] at hP hD
            have hP : va_P D vwCl (mwW cI cJ cG R m_ md_ mw_ mv_ mk_ mr_ mo_ mf_ mb_ mx_ mp_ K n dn wn vn tk kn (un M n (fu (fu (rwN dn wn vn) rw 8) (M n) (k + 1))) wo le kd px F fc 0 (fu (rwN dn wn vn) rw 8) lb) H := hP
            have hD : va_D A (mwW cI cJ cG R m_ md_ mw_ mv_ mk_ mr_ mo_ mf_ mb_ mx_ mp_ K n dn wn vn tk kn (un M n (fu (fu (rwN dn wn vn) rw 8) (M n) (k + 1))) wo le kd px F fc 0 (fu (rwN dn wn vn) rw 8) lb) := hD
            obtain ⟨x56, ex56⟩ : ∃ y : Int32, y = (nI k) + 1 := ⟨_, rfl⟩
            refine lv_iinc (v := x56) (lv' := [(2, .int x56), (0, .ref m_), (1, .int (nI a))]) hx hb dX4_teach_56 hl (k := 0) rfl (by rw [ex56]; rfl) (by decide) rfl (fun ls hl => ?_)
            obtain rfl : x56 = nI (k + 1) := by rw [ex56]; exact nI_1 _
            refine lv_goto (tgt := 30) hx hb dX4_teach_59 (by decide) ?_
            exact ih_30 (k + 1) (by omega) (by omega) H locs ls hP hD hS (lv_sub hl [0, 1, 2] rfl)
      exact L_30 _ 0 (Nat.zero_le _) (Nat.lt_succ_self _) H locs ls hP hD hS (lv_sub hl [0, 1, 2] rfl)
    · skip
      have hn4 : n = 40 := (nI_eq (b := 40) (by omega) (by omega)).mp c19
      have hB : (inB (nI a) K && decide (n < 40)) = false := by rw [decide_eq_false (by omega), Bool.and_false]
      refine lv_iconst (v := -1) hx hb dX4_teach_22 (by decide) ?_
      subst hQe
      subst hAe
      subst hsz
      exact g_iret hx hb hr hlocks ((n, kn, M), rw) ⟨by rw [hB]; rfl, by rw [hB]; rfl, hrw⟩ hP hK hD hS dX4_teach_23
abbrev rX4_leftOut : Room := { frames := 2, cells := 0, slots := 0, locals := 57 }
set_option maxHeartbeats 4000000 in
set_option maxRecDepth 100000 in
theorem c_X4_leftOut (l : Launch) (D : va_G) (cI cJ cG : ClassId) (sz : Nat) (R : va_W) (m_ md_ mw_ mv_ mk_ mr_ mo_ mf_ mb_ mx_ mp_ : Nat) (K : Nat) (n : Nat) (dn : Nat → Nat) (wn : Nat → Nat) (vn : Nat → Nat) (tk : Int64) (kn : Nat → Nat) (M : Nat → Nat → Nat) (wo : Nat → Int64) (le : Int64) (kd : Nat → Nat) (px : Nat) (F : Nat → Nat) (fc : Nat) (ft : Nat) (rw : Nat → Nat) (lb : Nat → Nat) (x : Int32) (hI : MI K n dn wn vn kn M kd px F fc rw lb) : Met l yX4_leftOut wsX4_leftOut rX4_leftOut (gP D (tyl cI cJ cG) [.ref m_, .int x] (mwW cI cJ cG R m_ md_ mw_ mv_ mk_ mr_ mo_ mf_ mb_ mx_ mp_ K n dn wn vn tk kn M wo le kd px F fc ft rw lb) sz) (gQi D (tyl cI cJ cG) (mwW cI cJ cG R m_ md_ mw_ mv_ mk_ mr_ mo_ mf_ mb_ mx_ mp_ K n dn wn vn tk kn M wo le kd px F fc ft rw lb) sz (fun r (u : Nat → Nat) => (r = if inB x n = true then RD kn (CM M) (ceN (fu (M x.toNatClampNeg) rw 8)) (nI x.toNatClampNeg) n wo le K else -2) ∧ (∀ k, u k ≤ 255)) (fun u => (mwW cI cJ cG R m_ md_ mw_ mv_ mk_ mr_ mo_ mf_ mb_ mx_ mp_ K n dn wn vn tk kn M wo le kd px F fc 0 u lb))) 0 0 (va_A (mwW cI cJ cG R m_ md_ mw_ mv_ mk_ mr_ mo_ mf_ mb_ mx_ mp_ K n dn wn vn tk kn M wo le kd px F fc ft rw lb) sz) := by
  refine gMet (cc := cX4_leftOut) (maxL := 2) (ret := (some .int)) (ls0 := [(0, .ref m_), (1, .int x)]) (by decide) rfl (Nat.le_of_ble_eq_true rfl) rfl ?_
  intro p e s m below meth c hx hb hr hts hown hlocks hml hname A hA hAe hsz Q hQe H locs hP hK hD hS ls hl
  have hown : s.vm.findClass RX4 = some m.cls := hown
  have in_X4 : ∀ w ∈ wsX40, w ∈ wsX4_leftOut := by decide +kernel
  have f_49 := hts (.fieldLink RX4 49 "SpectrumHeadsModel" "fault" "I") (by decide +kernel)
  have f_66 := hts (.fieldLink RX4 66 "SpectrumHeadsModel" "taught" "I") (by decide +kernel)
  obtain ⟨⟨hK1, hK4⟩, hn, ⟨hdn, hwn, hvn⟩, ⟨hkn, hM⟩, ⟨hkd, hpx, hlb⟩, ⟨hF, hfc⟩, hrw⟩ := id hI
  refine lv_aload_n hx hb dX4_leftOut_0 rfl (lv_at hl 0 rfl) ?_
  refine lv_iconst (v := 0) hx hb dX4_leftOut_1 (by decide) ?_
  refine va_put (D := D) (ci := 5) (v := .int 0) (ty := .int) (C := RX4) (T := TX4) (N := 17) hx hb hts in_X4 tyX4 tyX4_ok nmX4 hown hK hP hD hS 0 rfl rfl 14 (by decide) f_49 (fun _ h9 => h9) rfl (by decide +kernel) rfl rfl (Nat.le_of_ble_eq_true rfl) dX4_leftOut_2 (fun H locs hP hD hS => ?_)
  have hP : va_P D vwCl (mwW cI cJ cG R m_ md_ mw_ mv_ mk_ mr_ mo_ mf_ mb_ mx_ mp_ K n dn wn vn tk kn M wo le kd px F fc 0 rw lb) H := hP
  have hD : va_D A (mwW cI cJ cG R m_ md_ mw_ mv_ mk_ mr_ mo_ mf_ mb_ mx_ mp_ K n dn wn vn tk kn M wo le kd px F fc 0 rw lb) := hD
  refine lv_iload_n hx hb dX4_leftOut_5 rfl (lv_at hl 1 rfl) ?_
  refine lv_if_lt (tgt := 17) hx hb dX4_leftOut_6 (by decide) (fun c6 => ?_) (fun c6 => ?_)
  · skip
    have hB := inB_f1 (n := n) c6
    refine lv_bipush (v := -2) hx hb dX4_leftOut_17 (by decide) ?_
    subst hQe
    subst hAe
    subst hsz
    exact g_iret hx hb hr hlocks rw ⟨by rw [hB]; rfl, hrw⟩ hP hK hD hS dX4_leftOut_19
  · skip
    refine lv_iload_n hx hb dX4_leftOut_9 rfl (lv_at hl 1 rfl) ?_
    refine lv_aload_n hx hb dX4_leftOut_10 rfl (lv_at hl 0 rfl) ?_
    refine va_get (D := D) (ci := 5) (v := .int (nI n)) (C := RX4) (T := TX4) (N := 17) hx hb hts in_X4 hown hK hP 0 rfl rfl 5 (by decide) f_66 (fun _ h9 => h9) rfl dX4_leftOut_11 ?_
    refine lv_icmp_lt (tgt := 20) hx hb dX4_leftOut_14 (by decide) (fun c14 => ?_) (fun c14 => ?_)
    · skip
      have hB : inB x n = true := inB_t (by omega) c6 (fun h => lt_nle c14 h)
      obtain ⟨i, hi_, rfl⟩ := inB_of hB (by omega)
      refine lv_aload_n hx hb dX4_leftOut_20 rfl (lv_at hl 0 rfl) ?_
      refine lv_iload_n hx hb dX4_leftOut_21 rfl (lv_at hl 1 rfl) ?_
      refine gc_Vv (As := [.int (nI i)]) (rest := []) (ci := 5) (q0 := 0) ⟨hx, hb, hml, hown, hts⟩ (c_X4_takeTaught l D cI cJ cG H.size R m_ md_ mw_ mv_ mk_ mr_ mo_ mf_ mb_ mx_ mp_ K n dn wn vn tk kn M wo le kd px F fc 0 rw lb i (by omega) hI) (cwV 1 hts gX4_leftOut_X4_takeTaught rfl rfl rfl (by decide +kernel) ⟨Nat.le_of_ble_eq_true rfl, Nat.le_of_ble_eq_true rfl⟩) rfl rfl rfl hK hP hD hS hA rfl hl.1 rfl (Nat.le_of_ble_eq_true rfl) dX4_leftOut_22 ⟨Nat.le_of_ble_eq_true rfl, Nat.le_of_ble_eq_true rfl⟩ (fun u22 H locs h22 hP hD hS => ?_)
      have hP : va_P D vwCl (mwW cI cJ cG R m_ md_ mw_ mv_ mk_ mr_ mo_ mf_ mb_ mx_ mp_ K n dn wn vn tk kn M wo le kd px F fc 0 (fu (M i) rw 8) lb) H := hP
      have hD : va_D A (mwW cI cJ cG R m_ md_ mw_ mv_ mk_ mr_ mo_ mf_ mb_ mx_ mp_ K n dn wn vn tk kn M wo le kd px F fc 0 (fu (M i) rw 8) lb) := hD
      refine lv_aload_n hx hb dX4_leftOut_25 rfl (lv_at hl 0 rfl) ?_
      refine lv_iload_n hx hb dX4_leftOut_26 rfl (lv_at hl 1 rfl) ?_
      refine gc_Vi (As := [.int (nI i)]) (rest := []) (ci := 5) (q0 := 0) ⟨hx, hb, hml, hown, hts⟩ (c_X4_readRow l D cI cJ cG H.size R m_ md_ mw_ mv_ mk_ mr_ mo_ mf_ mb_ mx_ mp_ K n dn wn vn tk kn M wo le kd px F fc 0 (fu (M i) rw 8) lb (nI i) (MI_rw hI (fuM_le (hM i) hrw))) (cwV 1 hts gX4_leftOut_X4_readRow rfl rfl rfl (by decide +kernel) ⟨Nat.le_of_ble_eq_true rfl, Nat.le_of_ble_eq_true rfl⟩) rfl rfl rfl hK hP hD hS hA rfl hl.1 rfl (Nat.le_of_ble_eq_true rfl) dX4_leftOut_27 ⟨Nat.le_of_ble_eq_true rfl, Nat.le_of_ble_eq_true rfl⟩ (fun r27 u27 H locs h27 hP hD hS => ?_)
      subst h27
      have hP : va_P D vwCl (mwW cI cJ cG R m_ md_ mw_ mv_ mk_ mr_ mo_ mf_ mb_ mx_ mp_ K n dn wn vn tk kn M wo le kd px F fc 0 (fu (M i) rw 8) lb) H := hP
      have hD : va_D A (mwW cI cJ cG R m_ md_ mw_ mv_ mk_ mr_ mo_ mf_ mb_ mx_ mp_ K n dn wn vn tk kn M wo le kd px F fc 0 (fu (M i) rw 8) lb) := hD
      subst hQe
      subst hAe
      subst hsz
      exact g_iret hx hb hr hlocks (fu (M i) rw 8) ⟨by rw [hB, nI_clamp (by omega)]; rfl, fuM_le (hM i) hrw⟩ hP hK hD hS dX4_leftOut_30
    · skip
      have hB : inB x n = false := inB_f2 (by omega) (nlt_le c14)
      refine lv_bipush (v := -2) hx hb dX4_leftOut_17 (by decide) ?_
      subst hQe
      subst hAe
      subst hsz
      exact g_iret hx hb hr hlocks rw ⟨by rw [hB]; rfl, hrw⟩ hP hK hD hS dX4_leftOut_19
abbrev rX4_wrong : Room := { frames := 3, cells := 0, slots := 0, locals := 78 }
set_option maxHeartbeats 4000000 in
set_option maxRecDepth 100000 in
theorem c_X4_wrong (l : Launch) (D : va_G) (cI cJ cG : ClassId) (sz : Nat) (R : va_W) (m_ md_ mw_ mv_ mk_ mr_ mo_ mf_ mb_ mx_ mp_ : Nat) (K : Nat) (n : Nat) (dn : Nat → Nat) (wn : Nat → Nat) (vn : Nat → Nat) (tk : Int64) (kn : Nat → Nat) (M : Nat → Nat → Nat) (wo : Nat → Int64) (le : Int64) (kd : Nat → Nat) (px : Nat) (F : Nat → Nat) (fc : Nat) (ft : Nat) (rw : Nat → Nat) (lb : Nat → Nat) (x y : Int32) (hI : MI K n dn wn vn kn M kd px F fc rw lb) : Met l yX4_wrong wsX4_wrong rX4_wrong (gP D (tyl cI cJ cG) [.ref m_, .int x, .int y] (mwW cI cJ cG R m_ md_ mw_ mv_ mk_ mr_ mo_ mf_ mb_ mx_ mp_ K n dn wn vn tk kn M wo le kd px F fc ft rw lb) sz) (gQl D (tyl cI cJ cG) (mwW cI cJ cG R m_ md_ mw_ mv_ mk_ mr_ mo_ mf_ mb_ mx_ mp_ K n dn wn vn tk kn M wo le kd px F fc ft rw lb) sz (fun r (u : Nat → Nat) => (r = if (inB x K && (inB y K || decide (y = -1))) = true then lN (cnt (wrP kn (CM M) n wo le K x.toNatClampNeg y) n) else -1) ∧ (∀ k, u k ≤ 255)) (fun u => (mwW cI cJ cG R m_ md_ mw_ mv_ mk_ mr_ mo_ mf_ mb_ mx_ mp_ K n dn wn vn tk kn M wo le kd px F fc 0 u lb))) 0 0 (va_A (mwW cI cJ cG R m_ md_ mw_ mv_ mk_ mr_ mo_ mf_ mb_ mx_ mp_ K n dn wn vn tk kn M wo le kd px F fc ft rw lb) sz) := by
  refine gMet (cc := cX4_wrong) (maxL := 6) (ret := (some .long)) (ls0 := [(0, .ref m_), (1, .int x), (2, .int y)]) (by decide) rfl (Nat.le_of_ble_eq_true rfl) rfl ?_
  intro p e s m below meth c hx hb hr hts hown hlocks hml hname A hA hAe hsz Q hQe H locs hP hK hD hS ls hl
  have hown : s.vm.findClass RX4 = some m.cls := hown
  have in_X4 : ∀ w ∈ wsX40, w ∈ wsX4_wrong := by decide +kernel
  have f_49 := hts (.fieldLink RX4 49 "SpectrumHeadsModel" "fault" "I") (by decide +kernel)
  have f_66 := hts (.fieldLink RX4 66 "SpectrumHeadsModel" "taught" "I") (by decide +kernel)
  have f_19 := hts (.fieldLink RX4 19 "SpectrumHeadsModel" "taughtKind" "[I") (by decide +kernel)
  obtain ⟨⟨hK1, hK4⟩, hn, ⟨hdn, hwn, hvn⟩, ⟨hkn, hM⟩, ⟨hkd, hpx, hlb⟩, ⟨hF, hfc⟩, hrw⟩ := id hI
  refine lv_aload_n hx hb dX4_wrong_0 rfl (lv_at hl 0 rfl) ?_
  refine lv_iconst (v := 0) hx hb dX4_wrong_1 (by decide) ?_
  refine va_put (D := D) (ci := 5) (v := .int 0) (ty := .int) (C := RX4) (T := TX4) (N := 17) hx hb hts in_X4 tyX4 tyX4_ok nmX4 hown hK hP hD hS 0 rfl rfl 14 (by decide) f_49 (fun _ h9 => h9) rfl (by decide +kernel) rfl rfl (Nat.le_of_ble_eq_true rfl) dX4_wrong_2 (fun H locs hP hD hS => ?_)
  have hP : va_P D vwCl (mwW cI cJ cG R m_ md_ mw_ mv_ mk_ mr_ mo_ mf_ mb_ mx_ mp_ K n dn wn vn tk kn M wo le kd px F fc 0 rw lb) H := hP
  have hD : va_D A (mwW cI cJ cG R m_ md_ mw_ mv_ mk_ mr_ mo_ mf_ mb_ mx_ mp_ K n dn wn vn tk kn M wo le kd px F fc 0 rw lb) := hD
  refine lv_aload_n hx hb dX4_wrong_5 rfl (lv_at hl 0 rfl) ?_
  refine lv_iload_n hx hb dX4_wrong_6 rfl (lv_at hl 1 rfl) ?_
  refine gc_Vi (As := [.int x]) (rest := []) (ci := 5) (q0 := 0) ⟨hx, hb, hml, hown, hts⟩ (c_X4_isKind l D cI cJ cG H.size R m_ md_ mw_ mv_ mk_ mr_ mo_ mf_ mb_ mx_ mp_ K n dn wn vn tk kn M wo le kd px F fc 0 rw lb x hI) (cwV 1 hts gX4_wrong_X4_isKind rfl rfl rfl (by decide +kernel) ⟨Nat.le_of_ble_eq_true rfl, Nat.le_of_ble_eq_true rfl⟩) rfl rfl rfl hK hP hD hS hA rfl hl.1 rfl (Nat.le_of_ble_eq_true rfl) dX4_wrong_7 ⟨Nat.le_of_ble_eq_true rfl, Nat.le_of_ble_eq_true rfl⟩ (fun r7 u7 H locs h7 hP hD hS => ?_)
  subst h7
  have hP : va_P D vwCl (mwW cI cJ cG R m_ md_ mw_ mv_ mk_ mr_ mo_ mf_ mb_ mx_ mp_ K n dn wn vn tk kn M wo le kd px F fc 0 rw lb) H := hP
  have hD : va_D A (mwW cI cJ cG R m_ md_ mw_ mv_ mk_ mr_ mo_ mf_ mb_ mx_ mp_ K n dn wn vn tk kn M wo le kd px F fc 0 rw lb) := hD
  refine lv_if_eq (tgt := 26) hx hb dX4_wrong_10 (by decide) (fun c10 => ?_) (fun c10 => ?_)
  · skip
    have hB10 := bI_0.mp c10
    have hB : (inB x K && (inB y K || decide (y = -1))) = false := by rw [hB10]; rfl
    refine lv_ldc2 (v := -1) hx hb hown (hts (.constantLong RX4 82 (-1)) (by decide +kernel)) dX4_wrong_26 ?_
    subst hQe
    subst hAe
    subst hsz
    exact g_lret hx hb hr hlocks rw ⟨by rw [hB]; rfl, hrw⟩ hP hK hD hS dX4_wrong_29
  · skip
    have hB10 := bI_n0.mp c10
    obtain ⟨a, ha_, rfl⟩ := inB_of hB10 (by omega)
    refine lv_iload_n hx hb dX4_wrong_13 rfl (lv_at hl 2 rfl) ?_
    refine lv_iconst (v := -1) hx hb dX4_wrong_14 (by decide) ?_
    refine lv_icmp_eq (tgt := 30) hx hb dX4_wrong_15 (by decide) (fun c15 => ?_) (fun c15 => ?_)
    · skip
      have hB : (inB (nI a) K && (inB y K || decide (y = -1))) = true := by rw [hB10, decide_eq_true c15, Bool.or_true]; rfl
      refine lv_lconst (v := 0) hx hb dX4_wrong_30 (by decide) ?_
      refine lv_lstore_n (lv' := [(3, .long 0), (0, .ref m_), (1, .int (nI a)), (2, .int y)]) hx hb dX4_wrong_31 rfl hl (by decide) rfl (fun ls hl => ?_)
      refine lv_iconst (v := 0) hx hb dX4_wrong_32 (by decide) ?_
      refine lv_istore (lv' := [(5, .int 0), (3, .long 0), (0, .ref m_), (1, .int (nI a)), (2, .int y)]) hx hb dX4_wrong_33 hl (by decide) rfl (fun ls hl => ?_)
      have L_35 : ∀ (n_35 : Nat) (i : Nat) (rw1 : Nat → Nat) (hi : i ≤ n) (hrw1 : ∀ k, rw1 k ≤ 255), n - i < n_35 → ∀ (H : Heap) (locs : List Loc) (ls : Array Slot), va_P D vwCl (mwW cI cJ cG R m_ md_ mw_ mv_ mk_ mr_ mo_ mf_ mb_ mx_ mp_ K n dn wn vn tk kn M wo le kd px F fc 0 rw1 lb) H → va_D A (mwW cI cJ cG R m_ md_ mw_ mv_ mk_ mr_ mo_ mf_ mb_ mx_ mp_ K n dn wn vn tk kn M wo le kd px F fc 0 rw1 lb) → va_S A s.heap H locs → lv_has ls 6 [(5, .int (nI i)), (3, .long (lN (cnt (wrP kn (CM M) n wo le K a y) i))), (0, .ref m_), (1, .int (nI a)), (2, .int y)] → W p l e (headSpec wsX4_wrong rX4_wrong).room s m ([.ref m_, .int (nI a), .int y] : List Value).toArray below meth c H locs 0 0 Q (F0 m 35 ls []) := by
        intro n_35
        induction n_35 with
        | zero => intro i rw1 hi hrw1 hn_; exact absurd hn_ (Nat.not_lt_zero _)
        | succ n_35 ih_35 =>
          intro i rw1 hi hrw1 hn_35 H locs ls hP hD hS hl
          refine lv_iload hx hb dX4_wrong_35 (lv_at hl 0 rfl) ?_
          refine lv_aload_n hx hb dX4_wrong_37 rfl (lv_at hl 2 rfl) ?_
          refine va_get (D := D) (ci := 5) (v := .int (nI n)) (C := RX4) (T := TX4) (N := 17) hx hb hts in_X4 hown hK hP 0 rfl rfl 5 (by decide) f_66 (fun _ h9 => h9) rfl dX4_wrong_38 ?_
          refine lv_icmp_ge (tgt := 79) hx hb dX4_wrong_41 (by decide) (fun c41 => ?_) (fun c41 => ?_)
          · skip
            have hE41 := lp_e (n := n) c41 hi
            subst hE41
            refine lv_lload_n hx hb dX4_wrong_79 rfl (lv_at hl 1 rfl) ?_
            subst hQe
            subst hAe
            subst hsz
            exact g_lret hx hb hr hlocks rw1 ⟨by rw [hB, nI_clamp (by omega)]; rfl, hrw1⟩ hP hK hD hS dX4_wrong_80
          · skip
            have hi8 := lp_l (n := n) c41 hi
            have hki := hkn i
            refine lv_lload_n hx hb dX4_wrong_44 rfl (lv_at hl 1 rfl) ?_
            refine lv_aload_n hx hb dX4_wrong_45 rfl (lv_at hl 2 rfl) ?_
            refine va_get (D := D) (ci := 5) (v := .ref mk_) (C := RX4) (T := TX4) (N := 17) hx hb hts in_X4 hown hK hP 0 rfl rfl 6 (by decide) f_19 (fun _ h9 => h9) rfl dX4_wrong_46 ?_
            refine lv_iload hx hb dX4_wrong_49 (lv_at hl 0 rfl) ?_
            refine va_iald hx hb hK hP (4) 0 rfl rfl (by first | exact vp_in_nI (by omega) (by omega) | assumption) dX4_wrong_51 ?_
            refine lv_topi (fun x51 ex51 => ?_)
            rw [nI_clamp (by omega)] at ex51
            obtain rfl : x51 = nI (kn i) := by exact ex51
            refine lv_iload_n hx hb dX4_wrong_52 rfl (lv_at hl 3 rfl) ?_
            refine lv_icmp_ne (tgt := 70) hx hb dX4_wrong_53 (by decide) (fun c53 => ?_) (fun c53 => ?_)
            · skip
              have hno : (wrP kn (CM M) n wo le K a y) i = false := by simp [wrP, mt (fun h => congrArg nI h) c53]
              refine lv_lconst (v := 0) hx hb dX4_wrong_70 (by decide) ?_
              refine lv_ladd hx hb dX4_wrong_71 ?_
              refine lv_topl (fun x71 ex71 => ?_)
              obtain rfl : x71 = lN (cnt (wrP kn (CM M) n wo le K a y) (i + 1)) := by rw [ex71]; first | (rw [cnt_s hyes]; exact lN_1 _) | (rw [← cnt_n hno]; exact lN_add _ 0)
              refine lv_lstore_n (lv' := [(3, .long (lN (cnt (wrP kn (CM M) n wo le K a y) (i + 1)))), (5, .int (nI i)), (0, .ref m_), (1, .int (nI a)), (2, .int y)]) hx hb dX4_wrong_72 rfl hl (by decide) rfl (fun ls hl => ?_)
              obtain ⟨x73, ex73⟩ : ∃ y : Int32, y = (nI i) + 1 := ⟨_, rfl⟩
              refine lv_iinc (v := x73) (lv' := [(5, .int x73), (3, .long (lN (cnt (wrP kn (CM M) n wo le K a y) (i + 1)))), (0, .ref m_), (1, .int (nI a)), (2, .int y)]) hx hb dX4_wrong_73 hl (k := 1) rfl (by rw [ex73]; rfl) (by decide) rfl (fun ls hl => ?_)
              obtain rfl : x73 = nI (i + 1) := by rw [ex73]; exact nI_1 _
              refine lv_goto (tgt := 35) hx hb dX4_wrong_76 (by decide) ?_
              exact ih_35 (i + 1) _ (by omega) (by first | exact hu59 | exact hrw1) (by omega) H locs ls hP hD hS (lv_sub hl [0, 1, 2, 3, 4] rfl)
            · skip
              have hke : kn i = a := (nI_eq (by omega) (by omega)).mp c53
              refine lv_aload_n hx hb dX4_wrong_56 rfl (lv_at hl 2 rfl) ?_
              refine lv_iload hx hb dX4_wrong_57 (lv_at hl 0 rfl) ?_
              refine gc_Vi (As := [.int (nI i)]) (rest := [.long (lN (cnt (wrP kn (CM M) n wo le K a y) i))]) (ci := 5) (q0 := 0) ⟨hx, hb, hml, hown, hts⟩ (c_X4_leftOut l D cI cJ cG H.size R m_ md_ mw_ mv_ mk_ mr_ mo_ mf_ mb_ mx_ mp_ K n dn wn vn tk kn M wo le kd px F fc 0 rw1 lb (nI i) (MI_rw hI hrw1)) (cwV 1 hts gX4_wrong_X4_leftOut rfl rfl rfl (by decide +kernel) ⟨Nat.le_of_ble_eq_true rfl, Nat.le_of_ble_eq_true rfl⟩) rfl rfl rfl hK hP hD hS hA rfl hl.1 rfl (Nat.le_of_ble_eq_true rfl) dX4_wrong_59 ⟨Nat.le_of_ble_eq_true rfl, Nat.le_of_ble_eq_true rfl⟩ (fun r59 u59 H locs h59 hP hD hS => ?_)
              obtain ⟨h59, hu59⟩ := h59
              rw [inB_nI hi8 (by omega), if_pos rfl, nI_clamp (by omega), RD_row] at h59
              subst h59
              have hP : va_P D vwCl (mwW cI cJ cG R m_ md_ mw_ mv_ mk_ mr_ mo_ mf_ mb_ mx_ mp_ K n dn wn vn tk kn M wo le kd px F fc 0 u59 lb) H := hP
              have hD : va_D A (mwW cI cJ cG R m_ md_ mw_ mv_ mk_ mr_ mo_ mf_ mb_ mx_ mp_ K n dn wn vn tk kn M wo le kd px F fc 0 u59 lb) := hD
              refine lv_iload_n hx hb dX4_wrong_62 rfl (lv_at hl 4 rfl) ?_
              refine lv_icmp_ne (tgt := 70) hx hb dX4_wrong_63 (by decide) (fun c63 => ?_) (fun c63 => ?_)
              · skip
                have hno : (wrP kn (CM M) n wo le K a y) i = false := by simp [wrP, wr_row, c63]
                refine lv_lconst (v := 0) hx hb dX4_wrong_70 (by decide) ?_
                refine lv_ladd hx hb dX4_wrong_71 ?_
                refine lv_topl (fun x71 ex71 => ?_)
                obtain rfl : x71 = lN (cnt (wrP kn (CM M) n wo le K a y) (i + 1)) := by rw [ex71]; first | (rw [cnt_s hyes]; exact lN_1 _) | (rw [← cnt_n hno]; exact lN_add _ 0)
                refine lv_lstore_n (lv' := [(3, .long (lN (cnt (wrP kn (CM M) n wo le K a y) (i + 1)))), (5, .int (nI i)), (0, .ref m_), (1, .int (nI a)), (2, .int y)]) hx hb dX4_wrong_72 rfl hl (by decide) rfl (fun ls hl => ?_)
                obtain ⟨x73, ex73⟩ : ∃ y : Int32, y = (nI i) + 1 := ⟨_, rfl⟩
                refine lv_iinc (v := x73) (lv' := [(5, .int x73), (3, .long (lN (cnt (wrP kn (CM M) n wo le K a y) (i + 1)))), (0, .ref m_), (1, .int (nI a)), (2, .int y)]) hx hb dX4_wrong_73 hl (k := 1) rfl (by rw [ex73]; rfl) (by decide) rfl (fun ls hl => ?_)
                obtain rfl : x73 = nI (i + 1) := by rw [ex73]; exact nI_1 _
                refine lv_goto (tgt := 35) hx hb dX4_wrong_76 (by decide) ?_
                exact ih_35 (i + 1) _ (by omega) (by first | exact hu59 | exact hrw1) (by omega) H locs ls hP hD hS (lv_sub hl [0, 1, 2, 3, 4] rfl)
              · skip
                have hyes : (wrP kn (CM M) n wo le K a y) i = true := by simp [wrP, wr_row, hke, c63]
                refine lv_lconst (v := 1) hx hb dX4_wrong_66 (by decide) ?_
                refine lv_goto (tgt := 71) hx hb dX4_wrong_67 (by decide) ?_
                refine lv_ladd hx hb dX4_wrong_71 ?_
                refine lv_topl (fun x71 ex71 => ?_)
                obtain rfl : x71 = lN (cnt (wrP kn (CM M) n wo le K a y) (i + 1)) := by rw [ex71]; first | (rw [cnt_s hyes]; exact lN_1 _) | (rw [← cnt_n hno]; exact lN_add _ 0)
                refine lv_lstore_n (lv' := [(3, .long (lN (cnt (wrP kn (CM M) n wo le K a y) (i + 1)))), (5, .int (nI i)), (0, .ref m_), (1, .int (nI a)), (2, .int y)]) hx hb dX4_wrong_72 rfl hl (by decide) rfl (fun ls hl => ?_)
                obtain ⟨x73, ex73⟩ : ∃ y : Int32, y = (nI i) + 1 := ⟨_, rfl⟩
                refine lv_iinc (v := x73) (lv' := [(5, .int x73), (3, .long (lN (cnt (wrP kn (CM M) n wo le K a y) (i + 1)))), (0, .ref m_), (1, .int (nI a)), (2, .int y)]) hx hb dX4_wrong_73 hl (k := 1) rfl (by rw [ex73]; rfl) (by decide) rfl (fun ls hl => ?_)
                obtain rfl : x73 = nI (i + 1) := by rw [ex73]; exact nI_1 _
                refine lv_goto (tgt := 35) hx hb dX4_wrong_76 (by decide) ?_
                exact ih_35 (i + 1) _ (by omega) (by first | exact hu59 | exact hrw1) (by omega) H locs ls hP hD hS (lv_sub hl [0, 1, 2, 3, 4] rfl)
      exact L_35 _ 0 rw (Nat.zero_le _) hrw (Nat.lt_succ_self _) H locs ls hP hD hS (lv_sub hl [0, 1, 2, 3, 4] rfl)
    · skip
      refine lv_aload_n hx hb dX4_wrong_18 rfl (lv_at hl 0 rfl) ?_
      refine lv_iload_n hx hb dX4_wrong_19 rfl (lv_at hl 2 rfl) ?_
      refine gc_Vi (As := [.int y]) (rest := []) (ci := 5) (q0 := 0) ⟨hx, hb, hml, hown, hts⟩ (c_X4_isKind l D cI cJ cG H.size R m_ md_ mw_ mv_ mk_ mr_ mo_ mf_ mb_ mx_ mp_ K n dn wn vn tk kn M wo le kd px F fc 0 rw lb y hI) (cwV 1 hts gX4_wrong_X4_isKind rfl rfl rfl (by decide +kernel) ⟨Nat.le_of_ble_eq_true rfl, Nat.le_of_ble_eq_true rfl⟩) rfl rfl rfl hK hP hD hS hA rfl hl.1 rfl (Nat.le_of_ble_eq_true rfl) dX4_wrong_20 ⟨Nat.le_of_ble_eq_true rfl, Nat.le_of_ble_eq_true rfl⟩ (fun r20 u20 H locs h20 hP hD hS => ?_)
      subst h20
      have hP : va_P D vwCl (mwW cI cJ cG R m_ md_ mw_ mv_ mk_ mr_ mo_ mf_ mb_ mx_ mp_ K n dn wn vn tk kn M wo le kd px F fc 0 rw lb) H := hP
      have hD : va_D A (mwW cI cJ cG R m_ md_ mw_ mv_ mk_ mr_ mo_ mf_ mb_ mx_ mp_ K n dn wn vn tk kn M wo le kd px F fc 0 rw lb) := hD
      refine lv_if_ne (tgt := 30) hx hb dX4_wrong_23 (by decide) (fun c23 => ?_) (fun c23 => ?_)
      · skip
        have hB : (inB (nI a) K && (inB y K || decide (y = -1))) = true := by rw [hB10, bI_n0.mp c23]; rfl
        refine lv_lconst (v := 0) hx hb dX4_wrong_30 (by decide) ?_
        refine lv_lstore_n (lv' := [(3, .long 0), (0, .ref m_), (1, .int (nI a)), (2, .int y)]) hx hb dX4_wrong_31 rfl hl (by decide) rfl (fun ls hl => ?_)
        refine lv_iconst (v := 0) hx hb dX4_wrong_32 (by decide) ?_
        refine lv_istore (lv' := [(5, .int 0), (3, .long 0), (0, .ref m_), (1, .int (nI a)), (2, .int y)]) hx hb dX4_wrong_33 hl (by decide) rfl (fun ls hl => ?_)
        have L_35 : ∀ (n_35 : Nat) (i : Nat) (rw1 : Nat → Nat) (hi : i ≤ n) (hrw1 : ∀ k, rw1 k ≤ 255), n - i < n_35 → ∀ (H : Heap) (locs : List Loc) (ls : Array Slot), va_P D vwCl (mwW cI cJ cG R m_ md_ mw_ mv_ mk_ mr_ mo_ mf_ mb_ mx_ mp_ K n dn wn vn tk kn M wo le kd px F fc 0 rw1 lb) H → va_D A (mwW cI cJ cG R m_ md_ mw_ mv_ mk_ mr_ mo_ mf_ mb_ mx_ mp_ K n dn wn vn tk kn M wo le kd px F fc 0 rw1 lb) → va_S A s.heap H locs → lv_has ls 6 [(5, .int (nI i)), (3, .long (lN (cnt (wrP kn (CM M) n wo le K a y) i))), (0, .ref m_), (1, .int (nI a)), (2, .int y)] → W p l e (headSpec wsX4_wrong rX4_wrong).room s m ([.ref m_, .int (nI a), .int y] : List Value).toArray below meth c H locs 0 0 Q (F0 m 35 ls []) := by
          intro n_35
          induction n_35 with
          | zero => intro i rw1 hi hrw1 hn_; exact absurd hn_ (Nat.not_lt_zero _)
          | succ n_35 ih_35 =>
            intro i rw1 hi hrw1 hn_35 H locs ls hP hD hS hl
            refine lv_iload hx hb dX4_wrong_35 (lv_at hl 0 rfl) ?_
            refine lv_aload_n hx hb dX4_wrong_37 rfl (lv_at hl 2 rfl) ?_
            refine va_get (D := D) (ci := 5) (v := .int (nI n)) (C := RX4) (T := TX4) (N := 17) hx hb hts in_X4 hown hK hP 0 rfl rfl 5 (by decide) f_66 (fun _ h9 => h9) rfl dX4_wrong_38 ?_
            refine lv_icmp_ge (tgt := 79) hx hb dX4_wrong_41 (by decide) (fun c41 => ?_) (fun c41 => ?_)
            · skip
              have hE41 := lp_e (n := n) c41 hi
              subst hE41
              refine lv_lload_n hx hb dX4_wrong_79 rfl (lv_at hl 1 rfl) ?_
              subst hQe
              subst hAe
              subst hsz
              exact g_lret hx hb hr hlocks rw1 ⟨by rw [hB, nI_clamp (by omega)]; rfl, hrw1⟩ hP hK hD hS dX4_wrong_80
            · skip
              have hi8 := lp_l (n := n) c41 hi
              have hki := hkn i
              refine lv_lload_n hx hb dX4_wrong_44 rfl (lv_at hl 1 rfl) ?_
              refine lv_aload_n hx hb dX4_wrong_45 rfl (lv_at hl 2 rfl) ?_
              refine va_get (D := D) (ci := 5) (v := .ref mk_) (C := RX4) (T := TX4) (N := 17) hx hb hts in_X4 hown hK hP 0 rfl rfl 6 (by decide) f_19 (fun _ h9 => h9) rfl dX4_wrong_46 ?_
              refine lv_iload hx hb dX4_wrong_49 (lv_at hl 0 rfl) ?_
              refine va_iald hx hb hK hP (4) 0 rfl rfl (by first | exact vp_in_nI (by omega) (by omega) | assumption) dX4_wrong_51 ?_
              refine lv_topi (fun x51 ex51 => ?_)
              rw [nI_clamp (by omega)] at ex51
              obtain rfl : x51 = nI (kn i) := by exact ex51
              refine lv_iload_n hx hb dX4_wrong_52 rfl (lv_at hl 3 rfl) ?_
              refine lv_icmp_ne (tgt := 70) hx hb dX4_wrong_53 (by decide) (fun c53 => ?_) (fun c53 => ?_)
              · skip
                have hno : (wrP kn (CM M) n wo le K a y) i = false := by simp [wrP, mt (fun h => congrArg nI h) c53]
                refine lv_lconst (v := 0) hx hb dX4_wrong_70 (by decide) ?_
                refine lv_ladd hx hb dX4_wrong_71 ?_
                refine lv_topl (fun x71 ex71 => ?_)
                obtain rfl : x71 = lN (cnt (wrP kn (CM M) n wo le K a y) (i + 1)) := by rw [ex71]; first | (rw [cnt_s hyes]; exact lN_1 _) | (rw [← cnt_n hno]; exact lN_add _ 0)
                refine lv_lstore_n (lv' := [(3, .long (lN (cnt (wrP kn (CM M) n wo le K a y) (i + 1)))), (5, .int (nI i)), (0, .ref m_), (1, .int (nI a)), (2, .int y)]) hx hb dX4_wrong_72 rfl hl (by decide) rfl (fun ls hl => ?_)
                obtain ⟨x73, ex73⟩ : ∃ y : Int32, y = (nI i) + 1 := ⟨_, rfl⟩
                refine lv_iinc (v := x73) (lv' := [(5, .int x73), (3, .long (lN (cnt (wrP kn (CM M) n wo le K a y) (i + 1)))), (0, .ref m_), (1, .int (nI a)), (2, .int y)]) hx hb dX4_wrong_73 hl (k := 1) rfl (by rw [ex73]; rfl) (by decide) rfl (fun ls hl => ?_)
                obtain rfl : x73 = nI (i + 1) := by rw [ex73]; exact nI_1 _
                refine lv_goto (tgt := 35) hx hb dX4_wrong_76 (by decide) ?_
                exact ih_35 (i + 1) _ (by omega) (by first | exact hu59 | exact hrw1) (by omega) H locs ls hP hD hS (lv_sub hl [0, 1, 2, 3, 4] rfl)
              · skip
                have hke : kn i = a := (nI_eq (by omega) (by omega)).mp c53
                refine lv_aload_n hx hb dX4_wrong_56 rfl (lv_at hl 2 rfl) ?_
                refine lv_iload hx hb dX4_wrong_57 (lv_at hl 0 rfl) ?_
                refine gc_Vi (As := [.int (nI i)]) (rest := [.long (lN (cnt (wrP kn (CM M) n wo le K a y) i))]) (ci := 5) (q0 := 0) ⟨hx, hb, hml, hown, hts⟩ (c_X4_leftOut l D cI cJ cG H.size R m_ md_ mw_ mv_ mk_ mr_ mo_ mf_ mb_ mx_ mp_ K n dn wn vn tk kn M wo le kd px F fc 0 rw1 lb (nI i) (MI_rw hI hrw1)) (cwV 1 hts gX4_wrong_X4_leftOut rfl rfl rfl (by decide +kernel) ⟨Nat.le_of_ble_eq_true rfl, Nat.le_of_ble_eq_true rfl⟩) rfl rfl rfl hK hP hD hS hA rfl hl.1 rfl (Nat.le_of_ble_eq_true rfl) dX4_wrong_59 ⟨Nat.le_of_ble_eq_true rfl, Nat.le_of_ble_eq_true rfl⟩ (fun r59 u59 H locs h59 hP hD hS => ?_)
                obtain ⟨h59, hu59⟩ := h59
                rw [inB_nI hi8 (by omega), if_pos rfl, nI_clamp (by omega), RD_row] at h59
                subst h59
                have hP : va_P D vwCl (mwW cI cJ cG R m_ md_ mw_ mv_ mk_ mr_ mo_ mf_ mb_ mx_ mp_ K n dn wn vn tk kn M wo le kd px F fc 0 u59 lb) H := hP
                have hD : va_D A (mwW cI cJ cG R m_ md_ mw_ mv_ mk_ mr_ mo_ mf_ mb_ mx_ mp_ K n dn wn vn tk kn M wo le kd px F fc 0 u59 lb) := hD
                refine lv_iload_n hx hb dX4_wrong_62 rfl (lv_at hl 4 rfl) ?_
                refine lv_icmp_ne (tgt := 70) hx hb dX4_wrong_63 (by decide) (fun c63 => ?_) (fun c63 => ?_)
                · skip
                  have hno : (wrP kn (CM M) n wo le K a y) i = false := by simp [wrP, wr_row, c63]
                  refine lv_lconst (v := 0) hx hb dX4_wrong_70 (by decide) ?_
                  refine lv_ladd hx hb dX4_wrong_71 ?_
                  refine lv_topl (fun x71 ex71 => ?_)
                  obtain rfl : x71 = lN (cnt (wrP kn (CM M) n wo le K a y) (i + 1)) := by rw [ex71]; first | (rw [cnt_s hyes]; exact lN_1 _) | (rw [← cnt_n hno]; exact lN_add _ 0)
                  refine lv_lstore_n (lv' := [(3, .long (lN (cnt (wrP kn (CM M) n wo le K a y) (i + 1)))), (5, .int (nI i)), (0, .ref m_), (1, .int (nI a)), (2, .int y)]) hx hb dX4_wrong_72 rfl hl (by decide) rfl (fun ls hl => ?_)
                  obtain ⟨x73, ex73⟩ : ∃ y : Int32, y = (nI i) + 1 := ⟨_, rfl⟩
                  refine lv_iinc (v := x73) (lv' := [(5, .int x73), (3, .long (lN (cnt (wrP kn (CM M) n wo le K a y) (i + 1)))), (0, .ref m_), (1, .int (nI a)), (2, .int y)]) hx hb dX4_wrong_73 hl (k := 1) rfl (by rw [ex73]; rfl) (by decide) rfl (fun ls hl => ?_)
                  obtain rfl : x73 = nI (i + 1) := by rw [ex73]; exact nI_1 _
                  refine lv_goto (tgt := 35) hx hb dX4_wrong_76 (by decide) ?_
                  exact ih_35 (i + 1) _ (by omega) (by first | exact hu59 | exact hrw1) (by omega) H locs ls hP hD hS (lv_sub hl [0, 1, 2, 3, 4] rfl)
                · skip
                  have hyes : (wrP kn (CM M) n wo le K a y) i = true := by simp [wrP, wr_row, hke, c63]
                  refine lv_lconst (v := 1) hx hb dX4_wrong_66 (by decide) ?_
                  refine lv_goto (tgt := 71) hx hb dX4_wrong_67 (by decide) ?_
                  refine lv_ladd hx hb dX4_wrong_71 ?_
                  refine lv_topl (fun x71 ex71 => ?_)
                  obtain rfl : x71 = lN (cnt (wrP kn (CM M) n wo le K a y) (i + 1)) := by rw [ex71]; first | (rw [cnt_s hyes]; exact lN_1 _) | (rw [← cnt_n hno]; exact lN_add _ 0)
                  refine lv_lstore_n (lv' := [(3, .long (lN (cnt (wrP kn (CM M) n wo le K a y) (i + 1)))), (5, .int (nI i)), (0, .ref m_), (1, .int (nI a)), (2, .int y)]) hx hb dX4_wrong_72 rfl hl (by decide) rfl (fun ls hl => ?_)
                  obtain ⟨x73, ex73⟩ : ∃ y : Int32, y = (nI i) + 1 := ⟨_, rfl⟩
                  refine lv_iinc (v := x73) (lv' := [(5, .int x73), (3, .long (lN (cnt (wrP kn (CM M) n wo le K a y) (i + 1)))), (0, .ref m_), (1, .int (nI a)), (2, .int y)]) hx hb dX4_wrong_73 hl (k := 1) rfl (by rw [ex73]; rfl) (by decide) rfl (fun ls hl => ?_)
                  obtain rfl : x73 = nI (i + 1) := by rw [ex73]; exact nI_1 _
                  refine lv_goto (tgt := 35) hx hb dX4_wrong_76 (by decide) ?_
                  exact ih_35 (i + 1) _ (by omega) (by first | exact hu59 | exact hrw1) (by omega) H locs ls hP hD hS (lv_sub hl [0, 1, 2, 3, 4] rfl)
        exact L_35 _ 0 rw (Nat.zero_le _) hrw (Nat.lt_succ_self _) H locs ls hP hD hS (lv_sub hl [0, 1, 2, 3, 4] rfl)
      · skip
        have hB : (inB (nI a) K && (inB y K || decide (y = -1))) = false := by rw [bI_0.mp c23, decide_eq_false c15]; cases inB (nI a) K <;> rfl
        refine lv_ldc2 (v := -1) hx hb hown (hts (.constantLong RX4 82 (-1)) (by decide +kernel)) dX4_wrong_26 ?_
        subst hQe
        subst hAe
        subst hsz
        exact g_lret hx hb hr hlocks rw ⟨by rw [hB]; rfl, hrw⟩ hP hK hD hS dX4_wrong_29
abbrev rX4_correct : Room := { frames := 1, cells := 0, slots := 0, locals := 21 }
set_option maxHeartbeats 4000000 in
set_option maxRecDepth 100000 in
theorem c_X4_correct (l : Launch) (D : va_G) (cI cJ cG : ClassId) (sz : Nat) (R : va_W) (m_ md_ mw_ mv_ mk_ mr_ mo_ mf_ mb_ mx_ mp_ : Nat) (K : Nat) (n : Nat) (dn : Nat → Nat) (wn : Nat → Nat) (vn : Nat → Nat) (tk : Int64) (kn : Nat → Nat) (M : Nat → Nat → Nat) (wo : Nat → Int64) (le : Int64) (kd : Nat → Nat) (px : Nat) (F : Nat → Nat) (fc : Nat) (ft : Nat) (rw : Nat → Nat) (lb : Nat → Nat) (x y : Int32) (hI : MI K n dn wn vn kn M kd px F fc rw lb) : Met l yX4_correct wsX4_correct rX4_correct (gP D (tyl cI cJ cG) [.ref m_, .int x, .int y] (mwW cI cJ cG R m_ md_ mw_ mv_ mk_ mr_ mo_ mf_ mb_ mx_ mp_ K n dn wn vn tk kn M wo le kd px F fc ft rw lb) sz) (gQi D (tyl cI cJ cG) (mwW cI cJ cG R m_ md_ mw_ mv_ mk_ mr_ mo_ mf_ mb_ mx_ mp_ K n dn wn vn tk kn M wo le kd px F fc ft rw lb) sz (fun r (u : Nat → Nat) => (r = if (inB x n && inB y K) = true then nI (kn x.toNatClampNeg) else -1) ∧ u = if (inB x n && inB y K) = true then un kn x.toNatClampNeg y.toNatClampNeg else kn) (fun u => (mwW cI cJ cG R m_ md_ mw_ mv_ mk_ mr_ mo_ mf_ mb_ mx_ mp_ K n dn wn vn tk u M wo le kd px F fc 0 rw lb))) 0 0 (va_A (mwW cI cJ cG R m_ md_ mw_ mv_ mk_ mr_ mo_ mf_ mb_ mx_ mp_ K n dn wn vn tk kn M wo le kd px F fc ft rw lb) sz) := by
  refine gMet (cc := cX4_correct) (maxL := 4) (ret := (some .int)) (ls0 := [(0, .ref m_), (1, .int x), (2, .int y)]) (by decide) rfl (Nat.le_of_ble_eq_true rfl) rfl ?_
  intro p e s m below meth c hx hb hr hts hown hlocks hml hname A hA hAe hsz Q hQe H locs hP hK hD hS ls hl
  have hown : s.vm.findClass RX4 = some m.cls := hown
  have in_X4 : ∀ w ∈ wsX40, w ∈ wsX4_correct := by decide +kernel
  have f_49 := hts (.fieldLink RX4 49 "SpectrumHeadsModel" "fault" "I") (by decide +kernel)
  have f_66 := hts (.fieldLink RX4 66 "SpectrumHeadsModel" "taught" "I") (by decide +kernel)
  have f_19 := hts (.fieldLink RX4 19 "SpectrumHeadsModel" "taughtKind" "[I") (by decide +kernel)
  obtain ⟨⟨hK1, hK4⟩, hn, ⟨hdn, hwn, hvn⟩, ⟨hkn, hM⟩, ⟨hkd, hpx, hlb⟩, ⟨hF, hfc⟩, hrw⟩ := id hI
  refine lv_aload_n hx hb dX4_correct_0 rfl (lv_at hl 0 rfl) ?_
  refine lv_iconst (v := 0) hx hb dX4_correct_1 (by decide) ?_
  refine va_put (D := D) (ci := 5) (v := .int 0) (ty := .int) (C := RX4) (T := TX4) (N := 17) hx hb hts in_X4 tyX4 tyX4_ok nmX4 hown hK hP hD hS 0 rfl rfl 14 (by decide) f_49 (fun _ h9 => h9) rfl (by decide +kernel) rfl rfl (Nat.le_of_ble_eq_true rfl) dX4_correct_2 (fun H locs hP hD hS => ?_)
  have hP : va_P D vwCl (mwW cI cJ cG R m_ md_ mw_ mv_ mk_ mr_ mo_ mf_ mb_ mx_ mp_ K n dn wn vn tk kn M wo le kd px F fc 0 rw lb) H := hP
  have hD : va_D A (mwW cI cJ cG R m_ md_ mw_ mv_ mk_ mr_ mo_ mf_ mb_ mx_ mp_ K n dn wn vn tk kn M wo le kd px F fc 0 rw lb) := hD
  refine lv_iload_n hx hb dX4_correct_5 rfl (lv_at hl 1 rfl) ?_
  refine lv_if_lt (tgt := 25) hx hb dX4_correct_6 (by decide) (fun c6 => ?_) (fun c6 => ?_)
  · skip
    have hB : (inB x n && inB y K) = false := by rw [inB_f1 c6]; rfl
    refine lv_iconst (v := -1) hx hb dX4_correct_25 (by decide) ?_
    subst hQe
    subst hAe
    subst hsz
    exact g_iret hx hb hr hlocks kn ⟨by rw [hB]; rfl, by rw [hB]; rfl⟩ hP hK hD hS dX4_correct_26
  · skip
    refine lv_iload_n hx hb dX4_correct_9 rfl (lv_at hl 1 rfl) ?_
    refine lv_aload_n hx hb dX4_correct_10 rfl (lv_at hl 0 rfl) ?_
    refine va_get (D := D) (ci := 5) (v := .int (nI n)) (C := RX4) (T := TX4) (N := 17) hx hb hts in_X4 hown hK hP 0 rfl rfl 5 (by decide) f_66 (fun _ h9 => h9) rfl dX4_correct_11 ?_
    refine lv_icmp_ge (tgt := 25) hx hb dX4_correct_14 (by decide) (fun c14 => ?_) (fun c14 => ?_)
    · skip
      have hB : (inB x n && inB y K) = false := by rw [inB_f2 (by omega) c14]; rfl
      refine lv_iconst (v := -1) hx hb dX4_correct_25 (by decide) ?_
      subst hQe
      subst hAe
      subst hsz
      exact g_iret hx hb hr hlocks kn ⟨by rw [hB]; rfl, by rw [hB]; rfl⟩ hP hK hD hS dX4_correct_26
    · skip
      have hB14 : inB x n = true := inB_t (by omega) c6 c14
      obtain ⟨a, ha_, rfl⟩ := inB_of hB14 (by omega)
      refine lv_aload_n hx hb dX4_correct_17 rfl (lv_at hl 0 rfl) ?_
      refine lv_iload_n hx hb dX4_correct_18 rfl (lv_at hl 2 rfl) ?_
      refine gc_Vi (As := [.int y]) (rest := []) (ci := 5) (q0 := 0) ⟨hx, hb, hml, hown, hts⟩ (c_X4_isKind l D cI cJ cG H.size R m_ md_ mw_ mv_ mk_ mr_ mo_ mf_ mb_ mx_ mp_ K n dn wn vn tk kn M wo le kd px F fc 0 rw lb y hI) (cwV 1 hts gX4_correct_X4_isKind rfl rfl rfl (by decide +kernel) ⟨Nat.le_of_ble_eq_true rfl, Nat.le_of_ble_eq_true rfl⟩) rfl rfl rfl hK hP hD hS hA rfl hl.1 rfl (Nat.le_of_ble_eq_true rfl) dX4_correct_19 ⟨Nat.le_of_ble_eq_true rfl, Nat.le_of_ble_eq_true rfl⟩ (fun r19 u19 H locs h19 hP hD hS => ?_)
      subst h19
      have hP : va_P D vwCl (mwW cI cJ cG R m_ md_ mw_ mv_ mk_ mr_ mo_ mf_ mb_ mx_ mp_ K n dn wn vn tk kn M wo le kd px F fc 0 rw lb) H := hP
      have hD : va_D A (mwW cI cJ cG R m_ md_ mw_ mv_ mk_ mr_ mo_ mf_ mb_ mx_ mp_ K n dn wn vn tk kn M wo le kd px F fc 0 rw lb) := hD
      refine lv_if_ne (tgt := 27) hx hb dX4_correct_22 (by decide) (fun c22 => ?_) (fun c22 => ?_)
      · skip
        have hB22 := bI_n0.mp c22
        obtain ⟨b, hb_, rfl⟩ := inB_of hB22 (by omega)
        have hB : (inB (nI a) n && inB (nI b) K) = true := by rw [hB14, hB22]; rfl
        refine lv_aload_n hx hb dX4_correct_27 rfl (lv_at hl 0 rfl) ?_
        refine va_get (D := D) (ci := 5) (v := .ref mk_) (C := RX4) (T := TX4) (N := 17) hx hb hts in_X4 hown hK hP 0 rfl rfl 6 (by decide) f_19 (fun _ h9 => h9) rfl dX4_correct_28 ?_
        refine lv_iload_n hx hb dX4_correct_31 rfl (lv_at hl 1 rfl) ?_
        refine va_iald hx hb hK hP (4) 0 rfl rfl (by first | exact vp_in_nI (by omega) (by omega) | assumption) dX4_correct_32 ?_
        refine lv_topi (fun x32 ex32 => ?_)
        rw [nI_clamp (by omega)] at ex32
        obtain rfl : x32 = nI (kn a) := by exact ex32
        refine lv_istore_n (lv' := [(3, .int (nI (kn a))), (0, .ref m_), (1, .int (nI a)), (2, .int (nI b))]) hx hb dX4_correct_33 rfl hl (by decide) rfl (fun ls hl => ?_)
        refine lv_aload_n hx hb dX4_correct_34 rfl (lv_at hl 1 rfl) ?_
        refine va_get (D := D) (ci := 5) (v := .ref mk_) (C := RX4) (T := TX4) (N := 17) hx hb hts in_X4 hown hK hP 0 rfl rfl 6 (by decide) f_19 (fun _ h9 => h9) rfl dX4_correct_35 ?_
        refine lv_iload_n hx hb dX4_correct_38 rfl (lv_at hl 2 rfl) ?_
        refine lv_iload_n hx hb dX4_correct_39 rfl (lv_at hl 3 rfl) ?_
        refine va_iast hx hb hK hP hD hS 4 0 rfl rfl (by first | exact vp_in_nI (by omega) (by omega) | assumption) dX4_correct_40 (fun H locs hP hD hS => ?_)
        rw [nI_clamp (by omega)] at hP hD
        have hP : va_P D vwCl ((m_, .inr (5, [.int (nI K), .ref md_, .ref mw_, .ref mv_, .long tk, .int (nI n), .ref mk_, .ref mr_, .long le, .ref mo_, .int (nI px), .ref mf_, .ref mb_, .int (nI fc), .int 0, .ref mx_, .ref mp_])) :: (md_, .inl (cI, 8, .inl (nf dn))) :: (mw_, .inl (cI, 8, .inl (nf wn))) :: (mv_, .inl (cI, 8, .inl (nf vn))) :: (mk_, .inl (cI, 40, .inl (upd (nf kn) a (nI b)))) :: (mr_, .inl (cI, 320, .inl (nf (fM M)))) :: (mo_, .inl (cJ, 4, .inr (.inl wo))) :: (mf_, .inl (cI, 256, .inl (nf kd))) :: (mb_, .inl (cI, 400, .inl (nf F))) :: (mx_, .inl (cI, 8, .inl (nf rw))) :: (mp_, .inl (cI, 256, .inl (l1 lb))) :: R) H := hP
        have hD : va_D A ((m_, .inr (5, [.int (nI K), .ref md_, .ref mw_, .ref mv_, .long tk, .int (nI n), .ref mk_, .ref mr_, .long le, .ref mo_, .int (nI px), .ref mf_, .ref mb_, .int (nI fc), .int 0, .ref mx_, .ref mp_])) :: (md_, .inl (cI, 8, .inl (nf dn))) :: (mw_, .inl (cI, 8, .inl (nf wn))) :: (mv_, .inl (cI, 8, .inl (nf vn))) :: (mk_, .inl (cI, 40, .inl (upd (nf kn) a (nI b)))) :: (mr_, .inl (cI, 320, .inl (nf (fM M)))) :: (mo_, .inl (cJ, 4, .inr (.inl wo))) :: (mf_, .inl (cI, 256, .inl (nf kd))) :: (mb_, .inl (cI, 400, .inl (nf F))) :: (mx_, .inl (cI, 8, .inl (nf rw))) :: (mp_, .inl (cI, 256, .inl (l1 lb))) :: R) := hD
        have hW_ : upd (nf kn) a (nI b) = nf (un kn a b) := by exact nf_upd _ _ _
        rw [hW_] at hP hD
        have hP : va_P D vwCl (mwW cI cJ cG R m_ md_ mw_ mv_ mk_ mr_ mo_ mf_ mb_ mx_ mp_ K n dn wn vn tk (un kn a b) M wo le kd px F fc 0 rw lb) H := hP
        have hD : va_D A (mwW cI cJ cG R m_ md_ mw_ mv_ mk_ mr_ mo_ mf_ mb_ mx_ mp_ K n dn wn vn tk (un kn a b) M wo le kd px F fc 0 rw lb) := hD
        refine lv_iload_n hx hb dX4_correct_41 rfl (lv_at hl 0 rfl) ?_
        subst hQe
        subst hAe
        subst hsz
        exact g_iret hx hb hr hlocks (un kn a b) ⟨by rw [hB, nI_clamp (by omega)]; rfl, by rw [hB, nI_clamp (by omega), nI_clamp (by omega)]; rfl⟩ hP hK hD hS dX4_correct_42
      · skip
        have hB : (inB (nI a) n && inB y K) = false := by rw [bI_0.mp c22, Bool.and_false]
        refine lv_iconst (v := -1) hx hb dX4_correct_25 (by decide) ?_
        subst hQe
        subst hAe
        subst hsz
        exact g_iret hx hb hr hlocks kn ⟨by rw [hB]; rfl, by rw [hB]; rfl⟩ hP hK hD hS dX4_correct_26
abbrev rX4_packed : Room := { frames := 0, cells := 0, slots := 0, locals := 0 }
set_option maxHeartbeats 4000000 in
set_option maxRecDepth 100000 in
theorem c_X4_packed (l : Launch) (D : va_G) (cI cJ cG : ClassId) (sz : Nat) (R : va_W) (m_ md_ mw_ mv_ mk_ mr_ mo_ mf_ mb_ mx_ mp_ : Nat) (K : Nat) (n : Nat) (dn : Nat → Nat) (wn : Nat → Nat) (vn : Nat → Nat) (tk : Int64) (kn : Nat → Nat) (M : Nat → Nat → Nat) (wo : Nat → Int64) (le : Int64) (kd : Nat → Nat) (px : Nat) (F : Nat → Nat) (fc : Nat) (ft : Nat) (rw : Nat → Nat) (lb : Nat → Nat) (i : Nat) (hi : i < 2 + 9 * n) (hI : MI K n dn wn vn kn M kd px F fc rw lb) : Met l yX4_packed wsX4_packed rX4_packed (gP D (tyl cI cJ cG) [.ref m_, .int (nI i)] (mwW cI cJ cG R m_ md_ mw_ mv_ mk_ mr_ mo_ mf_ mb_ mx_ mp_ K n dn wn vn tk kn M wo le kd px F fc ft rw lb) sz) (gQi D (tyl cI cJ cG) (mwW cI cJ cG R m_ md_ mw_ mv_ mk_ mr_ mo_ mf_ mb_ mx_ mp_ K n dn wn vn tk kn M wo le kd px F fc ft rw lb) sz (fun r (_ : Unit) => r = nI (pbN K n kn M i)) (fun _ => (mwW cI cJ cG R m_ md_ mw_ mv_ mk_ mr_ mo_ mf_ mb_ mx_ mp_ K n dn wn vn tk kn M wo le kd px F fc ft rw lb))) 0 0 (va_A (mwW cI cJ cG R m_ md_ mw_ mv_ mk_ mr_ mo_ mf_ mb_ mx_ mp_ K n dn wn vn tk kn M wo le kd px F fc ft rw lb) sz) := by
  refine gMet (cc := cX4_packed) (maxL := 4) (ret := (some .int)) (ls0 := [(0, .ref m_), (1, .int (nI i))]) (by decide) rfl (Nat.le_of_ble_eq_true rfl) rfl ?_
  intro p e s m below meth c hx hb hr hts hown hlocks hml hname A hA hAe hsz Q hQe H locs hP hK hD hS ls hl
  have hown : s.vm.findClass RX4 = some m.cls := hown
  have in_X4 : ∀ w ∈ wsX40, w ∈ wsX4_packed := by decide +kernel
  have f_22 := hts (.fieldLink RX4 22 "SpectrumHeadsModel" "taughtRow" "[I") (by decide +kernel)
  have f_19 := hts (.fieldLink RX4 19 "SpectrumHeadsModel" "taughtKind" "[I") (by decide +kernel)
  have f_66 := hts (.fieldLink RX4 66 "SpectrumHeadsModel" "taught" "I") (by decide +kernel)
  have f_45 := hts (.fieldLink RX4 45 "SpectrumHeadsModel" "kinds" "I") (by decide +kernel)
  obtain ⟨⟨hK1, hK4⟩, hn, ⟨hdn, hwn, hvn⟩, ⟨hkn, hM⟩, ⟨hkd, hpx, hlb⟩, ⟨hF, hfc⟩, hrw⟩ := id hI
  refine lv_iload_n hx hb dX4_packed_0 rfl (lv_at hl 1 rfl) ?_
  refine lv_iconst (v := 2) hx hb dX4_packed_1 (by decide) ?_
  refine lv_icmp_ge (tgt := 21) hx hb dX4_packed_2 (by decide) (fun c2 => ?_) (fun c2 => ?_)
  · skip
    have h2 : 2 ≤ i := (nI_leI (a := 2) (by omega) (by omega)).mp c2
    refine lv_iload_n hx hb dX4_packed_21 rfl (lv_at hl 1 rfl) ?_
    refine lv_iconst (v := 2) hx hb dX4_packed_22 (by decide) ?_
    refine lv_isub hx hb dX4_packed_23 ?_
    refine lv_topi (fun x23 ex23 => ?_)
    obtain rfl : x23 = nI (i - 2) := by rw [ex23]; exact pk_sub (b := 2) (by omega)
    refine lv_bipush (v := 9) hx hb dX4_packed_24 (by decide) ?_
    refine lv_idiv hx hb dX4_packed_26 (by decide) ?_
    refine lv_topi (fun x26 ex26 => ?_)
    obtain rfl : x26 = nI ((i - 2) / 9) := by rw [ex26]; exact pk_div (d := 9) (by omega) (by omega) (by omega)
    refine lv_istore_n (lv' := [(2, .int (nI ((i - 2) / 9))), (0, .ref m_), (1, .int (nI i))]) hx hb dX4_packed_27 rfl hl (by decide) rfl (fun ls hl => ?_)
    refine lv_iload_n hx hb dX4_packed_28 rfl (lv_at hl 2 rfl) ?_
    refine lv_iconst (v := 2) hx hb dX4_packed_29 (by decide) ?_
    refine lv_isub hx hb dX4_packed_30 ?_
    refine lv_topi (fun x30 ex30 => ?_)
    obtain rfl : x30 = nI (i - 2) := by rw [ex30]; exact pk_sub (b := 2) (by omega)
    refine lv_bipush (v := 9) hx hb dX4_packed_31 (by decide) ?_
    refine lv_irem hx hb dX4_packed_33 (by decide) ?_
    refine lv_topi (fun x33 ex33 => ?_)
    obtain rfl : x33 = nI ((i - 2) % 9) := by rw [ex33]; exact pk_rem (d := 9) (by omega) (by omega) (by omega)
    refine lv_istore_n (lv' := [(3, .int (nI ((i - 2) % 9))), (2, .int (nI ((i - 2) / 9))), (0, .ref m_), (1, .int (nI i))]) hx hb dX4_packed_34 rfl hl (by decide) rfl (fun ls hl => ?_)
    refine lv_iload_n hx hb dX4_packed_35 rfl (lv_at hl 0 rfl) ?_
    refine lv_if_ne (tgt := 48) hx hb dX4_packed_36 (by decide) (fun c36 => ?_) (fun c36 => ?_)
    · skip
      have h9 : ¬ (i - 2) % 9 = 0 := fun h => c36 (by rw [h]; rfl)
      refine lv_aload_n hx hb dX4_packed_48 rfl (lv_at hl 2 rfl) ?_
      refine va_get (D := D) (ci := 5) (v := .ref mr_) (C := RX4) (T := TX4) (N := 17) hx hb hts in_X4 hown hK hP 0 rfl rfl 7 (by decide) f_22 (fun _ h9 => h9) rfl dX4_packed_49 ?_
      refine lv_bipush (v := 8) hx hb dX4_packed_52 (by decide) ?_
      refine lv_iload_n hx hb dX4_packed_54 rfl (lv_at hl 1 rfl) ?_
      refine lv_imul hx hb dX4_packed_55 ?_
      refine lv_topi (fun x55 ex55 => ?_)
      obtain rfl : x55 = nI (8 * ((i - 2) / 9)) := by rw [ex55]; exact pk_mul 8 _
      refine lv_iload_n hx hb dX4_packed_56 rfl (lv_at hl 0 rfl) ?_
      refine lv_iadd hx hb dX4_packed_57 ?_
      refine lv_topi (fun x57 ex57 => ?_)
      obtain rfl : x57 = nI (8 * ((i - 2) / 9) + (i - 2) % 9) := by rw [ex57]; exact nI_add _ _
      refine lv_iconst (v := 1) hx hb dX4_packed_58 (by decide) ?_
      refine lv_isub hx hb dX4_packed_59 ?_
      refine lv_topi (fun x59 ex59 => ?_)
      obtain rfl : x59 = nI (8 * ((i - 2) / 9) + ((i - 2) % 9 - 1)) := by rw [ex59, show (1 : Int32) = nI 1 from rfl, pk_sub (by omega)]; exact congrArg nI (by omega)
      refine va_iald hx hb hK hP (5) 0 rfl rfl (by first | exact vp_in_nI (by omega) (by omega) | assumption) dX4_packed_60 ?_
      refine lv_topi (fun x60 ex60 => ?_)
      rw [nI_clamp (by omega)] at ex60
      obtain rfl : x60 = nI (M ((i - 2) / 9) ((i - 2) % 9 - 1)) := by rw [ex60]; exact congrArg nI (fM_at (by omega))
      subst hQe
      subst hAe
      subst hsz
      exact g_iret hx hb hr hlocks () (by first | rw [pb_0 h6] | rw [pb_1 (by omega)] | rw [pb_k h2 h9] | rw [pb_m h2 h9]) hP hK hD hS dX4_packed_61
    · skip
      have h9 : (i - 2) % 9 = 0 := (nI_eq (b := 0) (by omega) (by omega)).mp c36
      refine lv_aload_n hx hb dX4_packed_39 rfl (lv_at hl 2 rfl) ?_
      refine va_get (D := D) (ci := 5) (v := .ref mk_) (C := RX4) (T := TX4) (N := 17) hx hb hts in_X4 hown hK hP 0 rfl rfl 6 (by decide) f_19 (fun _ h9 => h9) rfl dX4_packed_40 ?_
      refine lv_iload_n hx hb dX4_packed_43 rfl (lv_at hl 1 rfl) ?_
      refine va_iald hx hb hK hP (4) 0 rfl rfl (by first | exact vp_in_nI (by omega) (by omega) | assumption) dX4_packed_44 ?_
      refine lv_topi (fun x44 ex44 => ?_)
      rw [nI_clamp (by omega)] at ex44
      obtain rfl : x44 = nI (kn ((i - 2) / 9)) := by exact ex44
      refine lv_goto (tgt := 61) hx hb dX4_packed_45 (by decide) ?_
      subst hQe
      subst hAe
      subst hsz
      exact g_iret hx hb hr hlocks () (by first | rw [pb_0 h6] | rw [pb_1 (by omega)] | rw [pb_k h2 h9] | rw [pb_m h2 h9]) hP hK hD hS dX4_packed_61
  · skip
    have h2 : i < 2 := lt2 (n := 2) c2 (by omega)
    refine lv_iload_n hx hb dX4_packed_5 rfl (lv_at hl 1 rfl) ?_
    refine lv_if_ne (tgt := 16) hx hb dX4_packed_6 (by decide) (fun c6 => ?_) (fun c6 => ?_)
    · skip
      have h6 : ¬ i = 0 := fun h => c6 (by rw [h]; rfl)
      refine lv_aload_n hx hb dX4_packed_16 rfl (lv_at hl 0 rfl) ?_
      refine va_get (D := D) (ci := 5) (v := .int (nI n)) (C := RX4) (T := TX4) (N := 17) hx hb hts in_X4 hown hK hP 0 rfl rfl 5 (by decide) f_66 (fun _ h9 => h9) rfl dX4_packed_17 ?_
      subst hQe
      subst hAe
      subst hsz
      exact g_iret hx hb hr hlocks () (by first | rw [pb_0 h6] | rw [pb_1 (by omega)] | rw [pb_k h2 h9] | rw [pb_m h2 h9]) hP hK hD hS dX4_packed_20
    · skip
      have h6 : i = 0 := (nI_eq (b := 0) (by omega) (by omega)).mp c6
      refine lv_aload_n hx hb dX4_packed_9 rfl (lv_at hl 0 rfl) ?_
      refine va_get (D := D) (ci := 5) (v := .int (nI K)) (C := RX4) (T := TX4) (N := 17) hx hb hts in_X4 hown hK hP 0 rfl rfl 0 (by decide) f_45 (fun _ h9 => h9) rfl dX4_packed_10 ?_
      refine lv_goto (tgt := 20) hx hb dX4_packed_13 (by decide) ?_
      subst hQe
      subst hAe
      subst hsz
      exact g_iret hx hb hr hlocks () (by first | rw [pb_0 h6] | rw [pb_1 (by omega)] | rw [pb_k h2 h9] | rw [pb_m h2 h9]) hP hK hD hS dX4_packed_20
abbrev rX4_pack : Room := { frames := 1, cells := 0, slots := 0, locals := 23 }
set_option maxHeartbeats 4000000 in
set_option maxRecDepth 100000 in
theorem c_X4_pack (l : Launch) (D : va_G) (cI cJ cG : ClassId) (sz : Nat) (R : va_W) (m_ md_ mw_ mv_ mk_ mr_ mo_ mf_ mb_ mx_ mp_ : Nat) (K : Nat) (n : Nat) (dn : Nat → Nat) (wn : Nat → Nat) (vn : Nat → Nat) (tk : Int64) (kn : Nat → Nat) (M : Nat → Nat → Nat) (wo : Nat → Int64) (le : Int64) (kd : Nat → Nat) (px : Nat) (F : Nat → Nat) (fc : Nat) (ft : Nat) (rw : Nat → Nat) (lb : Nat → Nat) (x : Int32) (hI : MI K n dn wn vn kn M kd px F fc rw lb) : Met l yX4_pack wsX4_pack rX4_pack (gP D (tyl cI cJ cG) [.ref m_, .int x] (mwW cI cJ cG R m_ md_ mw_ mv_ mk_ mr_ mo_ mf_ mb_ mx_ mp_ K n dn wn vn tk kn M wo le kd px F fc ft rw lb) sz) (gQi D (tyl cI cJ cG) (mwW cI cJ cG R m_ md_ mw_ mv_ mk_ mr_ mo_ mf_ mb_ mx_ mp_ K n dn wn vn tk kn M wo le kd px F fc ft rw lb) sz (fun r (_ : Unit) => r = pkN K n kn M x) (fun _ => (mwW cI cJ cG R m_ md_ mw_ mv_ mk_ mr_ mo_ mf_ mb_ mx_ mp_ K n dn wn vn tk kn M wo le kd px F fc 0 rw lb))) 0 0 (va_A (mwW cI cJ cG R m_ md_ mw_ mv_ mk_ mr_ mo_ mf_ mb_ mx_ mp_ K n dn wn vn tk kn M wo le kd px F fc ft rw lb) sz) := by
  refine gMet (cc := cX4_pack) (maxL := 5) (ret := (some .int)) (ls0 := [(0, .ref m_), (1, .int x)]) (by decide) rfl (Nat.le_of_ble_eq_true rfl) rfl ?_
  intro p e s m below meth c hx hb hr hts hown hlocks hml hname A hA hAe hsz Q hQe H locs hP hK hD hS ls hl
  have hown : s.vm.findClass RX4 = some m.cls := hown
  have in_X4 : ∀ w ∈ wsX40, w ∈ wsX4_pack := by decide +kernel
  have f_49 := hts (.fieldLink RX4 49 "SpectrumHeadsModel" "fault" "I") (by decide +kernel)
  have f_66 := hts (.fieldLink RX4 66 "SpectrumHeadsModel" "taught" "I") (by decide +kernel)
  obtain ⟨⟨hK1, hK4⟩, hn, ⟨hdn, hwn, hvn⟩, ⟨hkn, hM⟩, ⟨hkd, hpx, hlb⟩, ⟨hF, hfc⟩, hrw⟩ := id hI
  refine lv_aload_n hx hb dX4_pack_0 rfl (lv_at hl 0 rfl) ?_
  refine lv_iconst (v := 0) hx hb dX4_pack_1 (by decide) ?_
  refine va_put (D := D) (ci := 5) (v := .int 0) (ty := .int) (C := RX4) (T := TX4) (N := 17) hx hb hts in_X4 tyX4 tyX4_ok nmX4 hown hK hP hD hS 0 rfl rfl 14 (by decide) f_49 (fun _ h9 => h9) rfl (by decide +kernel) rfl rfl (Nat.le_of_ble_eq_true rfl) dX4_pack_2 (fun H locs hP hD hS => ?_)
  have hP : va_P D vwCl (mwW cI cJ cG R m_ md_ mw_ mv_ mk_ mr_ mo_ mf_ mb_ mx_ mp_ K n dn wn vn tk kn M wo le kd px F fc 0 rw lb) H := hP
  have hD : va_D A (mwW cI cJ cG R m_ md_ mw_ mv_ mk_ mr_ mo_ mf_ mb_ mx_ mp_ K n dn wn vn tk kn M wo le kd px F fc 0 rw lb) := hD
  refine lv_iconst (v := 3) hx hb dX4_pack_5 (by decide) ?_
  refine lv_bipush (v := 9) hx hb dX4_pack_6 (by decide) ?_
  refine lv_aload_n hx hb dX4_pack_8 rfl (lv_at hl 0 rfl) ?_
  refine va_get (D := D) (ci := 5) (v := .int (nI n)) (C := RX4) (T := TX4) (N := 17) hx hb hts in_X4 hown hK hP 0 rfl rfl 5 (by decide) f_66 (fun _ h9 => h9) rfl dX4_pack_9 ?_
  refine lv_imul hx hb dX4_pack_12 ?_
  refine lv_topi (fun x12 ex12 => ?_)
  obtain rfl : x12 = nI (9 * n) := by rw [ex12]; exact pk_mul 9 _
  refine lv_iadd hx hb dX4_pack_13 ?_
  refine lv_topi (fun x13 ex13 => ?_)
  obtain rfl : x13 = nI (3 + 9 * n) := by rw [ex13]; exact nI_add 3 _
  refine lv_istore_n (lv' := [(2, .int (nI (3 + 9 * n))), (0, .ref m_), (1, .int x)]) hx hb dX4_pack_14 rfl hl (by decide) rfl (fun ls hl => ?_)
  refine lv_iload_n hx hb dX4_pack_15 rfl (lv_at hl 2 rfl) ?_
  refine lv_if_lt (tgt := 24) hx hb dX4_pack_16 (by decide) (fun c16 => ?_) (fun c16 => ?_)
  · skip
    refine lv_iconst (v := -1) hx hb dX4_pack_24 (by decide) ?_
    subst hQe
    subst hAe
    subst hsz
    exact g_iret hx hb hr hlocks () (by first | exact pk_ng c16 | exact pk_ou hn (fun h => c21 (le_lt3 h)) | exact pk_lo hn hj2 | exact pk_hi hn hj2) hP hK hD hS dX4_pack_25
  · skip
    refine lv_iload_n hx hb dX4_pack_19 rfl (lv_at hl 2 rfl) ?_
    refine lv_iload_n hx hb dX4_pack_20 rfl (lv_at hl 0 rfl) ?_
    refine lv_icmp_lt (tgt := 26) hx hb dX4_pack_21 (by decide) (fun c21 => ?_) (fun c21 => ?_)
    · skip
      obtain ⟨j, hj, rfl⟩ := inB_of (inB_t (n := 3 + 9 * n) (by omega) c16 (fun h => lt_nle c21 h)) (by omega)
      refine lv_iload_n hx hb dX4_pack_26 rfl (lv_at hl 2 rfl) ?_
      refine lv_iload_n hx hb dX4_pack_27 rfl (lv_at hl 0 rfl) ?_
      refine lv_iconst (v := 1) hx hb dX4_pack_28 (by decide) ?_
      refine lv_isub hx hb dX4_pack_29 ?_
      refine lv_topi (fun x29 ex29 => ?_)
      obtain rfl : x29 = nI (2 + 9 * n) := by rw [ex29, show (1 : Int32) = nI 1 from rfl, pk_sub (by omega)]; exact congrArg nI (by omega)
      refine lv_icmp_ge (tgt := 39) hx hb dX4_pack_30 (by decide) (fun c30 => ?_) (fun c30 => ?_)
      · skip
        have hj2 : j = 2 + 9 * n := by have := (nI_leI (by omega) (by omega)).mp c30; omega
        refine lv_iconst (v := 0) hx hb dX4_pack_39 (by decide) ?_
        refine lv_istore_n (lv' := [(3, .int 0), (2, .int (nI (3 + 9 * n))), (0, .ref m_), (1, .int (nI j))]) hx hb dX4_pack_40 rfl hl (by decide) rfl (fun ls hl => ?_)
        refine lv_iconst (v := 0) hx hb dX4_pack_41 (by decide) ?_
        refine lv_istore (lv' := [(4, .int 0), (3, .int 0), (2, .int (nI (3 + 9 * n))), (0, .ref m_), (1, .int (nI j))]) hx hb dX4_pack_42 hl (by decide) rfl (fun ls hl => ?_)
        have L_44 : ∀ (n_44 : Nat) (i : Nat) (hi : i ≤ 2 + 9 * n), 2 + 9 * n - i < n_44 → ∀ (H : Heap) (locs : List Loc) (ls : Array Slot), va_P D vwCl (mwW cI cJ cG R m_ md_ mw_ mv_ mk_ mr_ mo_ mf_ mb_ mx_ mp_ K n dn wn vn tk kn M wo le kd px F fc 0 rw lb) H → va_D A (mwW cI cJ cG R m_ md_ mw_ mv_ mk_ mr_ mo_ mf_ mb_ mx_ mp_ K n dn wn vn tk kn M wo le kd px F fc 0 rw lb) → va_S A s.heap H locs → lv_has ls 5 [(4, .int (nI i)), (3, .int (nI (sumN (pbN K n kn M) i))), (2, .int (nI (3 + 9 * n))), (0, .ref m_), (1, .int (nI j))] → W p l e (headSpec wsX4_pack rX4_pack).room s m ([.ref m_, .int (nI j)] : List Value).toArray below meth c H locs 0 0 Q (F0 m 44 ls []) := by
          intro n_44
          induction n_44 with
          | zero => intro i hi hn_; exact absurd hn_ (Nat.not_lt_zero _)
          | succ n_44 ih_44 =>
            intro i hi hn_44 H locs ls hP hD hS hl
            refine lv_iload hx hb dX4_pack_44 (lv_at hl 0 rfl) ?_
            refine lv_iload_n hx hb dX4_pack_46 rfl (lv_at hl 2 rfl) ?_
            refine lv_iconst (v := 1) hx hb dX4_pack_47 (by decide) ?_
            refine lv_isub hx hb dX4_pack_48 ?_
            refine lv_topi (fun x48 ex48 => ?_)
            obtain rfl : x48 = nI (2 + 9 * n) := by rw [ex48, show (1 : Int32) = nI 1 from rfl, pk_sub (by omega)]; exact congrArg nI (by omega)
            refine lv_icmp_ge (tgt := 67) hx hb dX4_pack_49 (by decide) (fun c49 => ?_) (fun c49 => ?_)
            · skip
              have hE49 := lp_e (n := (2 + 9 * n)) c49 hi
              subst hE49
              have hsb := sumN_le (pbN_le (K := K) (n := n) (by omega) (by omega) hkn hM) (2 + 9 * n)
              refine lv_iload_n hx hb dX4_pack_67 rfl (lv_at hl 1 rfl) ?_
              refine lv_sipush (v := 256) hx hb dX4_pack_68 (by decide) ?_
              refine lv_irem hx hb dX4_pack_71 (by decide) ?_
              refine lv_topi (fun x71 ex71 => ?_)
              obtain rfl : x71 = nI (sumN (pbN K n kn M) (2 + 9 * n) % 256) := by rw [ex71]; exact pk_rem (d := 256) (by omega) (by omega) (by omega)
              subst hQe
              subst hAe
              subst hsz
              exact g_iret hx hb hr hlocks () (by first | exact pk_ng c16 | exact pk_ou hn (fun h => c21 (le_lt3 h)) | exact pk_lo hn hj2 | exact pk_hi hn hj2) hP hK hD hS dX4_pack_72
            · skip
              have hi8 := lp_l (n := (2 + 9 * n)) c49 hi
              refine lv_iload_n hx hb dX4_pack_52 rfl (lv_at hl 1 rfl) ?_
              refine lv_aload_n hx hb dX4_pack_53 rfl (lv_at hl 3 rfl) ?_
              refine lv_iload hx hb dX4_pack_54 (lv_at hl 0 rfl) ?_
              refine gc_Vi (As := [.int (nI i)]) (rest := [.int (nI (sumN (pbN K n kn M) i))]) (ci := 5) (q0 := 0) ⟨hx, hb, hml, hown, hts⟩ (c_X4_packed l D cI cJ cG H.size R m_ md_ mw_ mv_ mk_ mr_ mo_ mf_ mb_ mx_ mp_ K n dn wn vn tk kn M wo le kd px F fc 0 rw lb i (by omega) hI) (cwV 1 hts gX4_pack_X4_packed rfl rfl rfl (by decide +kernel) ⟨Nat.le_of_ble_eq_true rfl, Nat.le_of_ble_eq_true rfl⟩) rfl rfl rfl hK hP hD hS hA rfl hl.1 rfl (Nat.le_of_ble_eq_true rfl) dX4_pack_56 ⟨Nat.le_of_ble_eq_true rfl, Nat.le_of_ble_eq_true rfl⟩ (fun r56 u56 H locs h56 hP hD hS => ?_)
              subst h56
              have hP : va_P D vwCl (mwW cI cJ cG R m_ md_ mw_ mv_ mk_ mr_ mo_ mf_ mb_ mx_ mp_ K n dn wn vn tk kn M wo le kd px F fc 0 rw lb) H := hP
              have hD : va_D A (mwW cI cJ cG R m_ md_ mw_ mv_ mk_ mr_ mo_ mf_ mb_ mx_ mp_ K n dn wn vn tk kn M wo le kd px F fc 0 rw lb) := hD
              refine lv_iadd hx hb dX4_pack_59 ?_
              refine lv_topi (fun x59 ex59 => ?_)
              obtain rfl : x59 = nI (sumN (pbN K n kn M) (i + 1)) := by rw [ex59]; exact nI_add _ _
              refine lv_istore_n (lv' := [(3, .int (nI (sumN (pbN K n kn M) (i + 1)))), (4, .int (nI i)), (2, .int (nI (3 + 9 * n))), (0, .ref m_), (1, .int (nI j))]) hx hb dX4_pack_60 rfl hl (by decide) rfl (fun ls hl => ?_)
              obtain ⟨x61, ex61⟩ : ∃ y : Int32, y = (nI i) + 1 := ⟨_, rfl⟩
              refine lv_iinc (v := x61) (lv' := [(4, .int x61), (3, .int (nI (sumN (pbN K n kn M) (i + 1)))), (2, .int (nI (3 + 9 * n))), (0, .ref m_), (1, .int (nI j))]) hx hb dX4_pack_61 hl (k := 1) rfl (by rw [ex61]; rfl) (by decide) rfl (fun ls hl => ?_)
              obtain rfl : x61 = nI (i + 1) := by rw [ex61]; exact nI_1 _
              refine lv_goto (tgt := 44) hx hb dX4_pack_64 (by decide) ?_
              exact ih_44 (i + 1) (by omega) (by omega) H locs ls hP hD hS (lv_sub hl [0, 1, 2, 3, 4] rfl)
        exact L_44 _ 0 (Nat.zero_le _) (Nat.lt_succ_self _) H locs ls hP hD hS (lv_sub hl [0, 1, 2, 3, 4] rfl)
      · skip
        have hj2 : j < 2 + 9 * n := by have := mt (nI_leI (by omega) (by omega)).mpr c30; omega
        refine lv_aload_n hx hb dX4_pack_33 rfl (lv_at hl 1 rfl) ?_
        refine lv_iload_n hx hb dX4_pack_34 rfl (lv_at hl 2 rfl) ?_
        refine gc_Vi (As := [.int (nI j)]) (rest := []) (ci := 5) (q0 := 0) ⟨hx, hb, hml, hown, hts⟩ (c_X4_packed l D cI cJ cG H.size R m_ md_ mw_ mv_ mk_ mr_ mo_ mf_ mb_ mx_ mp_ K n dn wn vn tk kn M wo le kd px F fc 0 rw lb j hj2 hI) (cwV 1 hts gX4_pack_X4_packed rfl rfl rfl (by decide +kernel) ⟨Nat.le_of_ble_eq_true rfl, Nat.le_of_ble_eq_true rfl⟩) rfl rfl rfl hK hP hD hS hA rfl hl.1 rfl (Nat.le_of_ble_eq_true rfl) dX4_pack_35 ⟨Nat.le_of_ble_eq_true rfl, Nat.le_of_ble_eq_true rfl⟩ (fun r35 u35 H locs h35 hP hD hS => ?_)
        subst h35
        have hP : va_P D vwCl (mwW cI cJ cG R m_ md_ mw_ mv_ mk_ mr_ mo_ mf_ mb_ mx_ mp_ K n dn wn vn tk kn M wo le kd px F fc 0 rw lb) H := hP
        have hD : va_D A (mwW cI cJ cG R m_ md_ mw_ mv_ mk_ mr_ mo_ mf_ mb_ mx_ mp_ K n dn wn vn tk kn M wo le kd px F fc 0 rw lb) := hD
        subst hQe
        subst hAe
        subst hsz
        exact g_iret hx hb hr hlocks () (by first | exact pk_ng c16 | exact pk_ou hn (fun h => c21 (le_lt3 h)) | exact pk_lo hn hj2 | exact pk_hi hn hj2) hP hK hD hS dX4_pack_38
    · skip
      refine lv_iconst (v := -1) hx hb dX4_pack_24 (by decide) ?_
      subst hQe
      subst hAe
      subst hsz
      exact g_iret hx hb hr hlocks () (by first | exact pk_ng c16 | exact pk_ou hn (fun h => c21 (le_lt3 h)) | exact pk_lo hn hj2 | exact pk_hi hn hj2) hP hK hD hS dX4_pack_25
abbrev rX4_feed : Room := { frames := 1, cells := 0, slots := 0, locals := 20 }
set_option maxHeartbeats 4000000 in
set_option maxRecDepth 100000 in
theorem c_X4_feed (l : Launch) (D : va_G) (cI cJ cG : ClassId) (sz : Nat) (R : va_W) (m_ md_ mw_ mv_ mk_ mr_ mo_ mf_ mb_ mx_ mp_ : Nat) (K : Nat) (n : Nat) (dn : Nat → Nat) (wn : Nat → Nat) (vn : Nat → Nat) (tk : Int64) (kn : Nat → Nat) (M : Nat → Nat → Nat) (wo : Nat → Int64) (le : Int64) (kd : Nat → Nat) (px : Nat) (F : Nat → Nat) (fc : Nat) (ft : Nat) (rw : Nat → Nat) (lb : Nat → Nat) (x : Int32) (hI : MI K n dn wn vn kn M kd px F fc rw lb) : Met l yX4_feed wsX4_feed rX4_feed (gP D (tyl cI cJ cG) [.ref m_, .int x] (mwW cI cJ cG R m_ md_ mw_ mv_ mk_ mr_ mo_ mf_ mb_ mx_ mp_ K n dn wn vn tk kn M wo le kd px F fc ft rw lb) sz) (gQi D (tyl cI cJ cG) (mwW cI cJ cG R m_ md_ mw_ mv_ mk_ mr_ mo_ mf_ mb_ mx_ mp_ K n dn wn vn tk kn M wo le kd px F fc ft rw lb) sz (fun r (u : (Nat → Nat) × Nat) => r = bI (inB x 256 && decide (fc < 400)) ∧ u = if (inB x 256 && decide (fc < 400)) = true then (un F fc x.toNatClampNeg, fc + 1) else (F, fc)) (fun u => (mwW cI cJ cG R m_ md_ mw_ mv_ mk_ mr_ mo_ mf_ mb_ mx_ mp_ K n dn wn vn tk kn M wo le kd px u.1 u.2 0 rw lb))) 0 0 (va_A (mwW cI cJ cG R m_ md_ mw_ mv_ mk_ mr_ mo_ mf_ mb_ mx_ mp_ K n dn wn vn tk kn M wo le kd px F fc ft rw lb) sz) := by
  refine gMet (cc := cX4_feed) (maxL := 2) (ret := (some .boolean)) (ls0 := [(0, .ref m_), (1, .int x)]) (by decide) rfl (Nat.le_of_ble_eq_true rfl) rfl ?_
  intro p e s m below meth c hx hb hr hts hown hlocks hml hname A hA hAe hsz Q hQe H locs hP hK hD hS ls hl
  have hown : s.vm.findClass RX4 = some m.cls := hown
  have in_X4 : ∀ w ∈ wsX40, w ∈ wsX4_feed := by decide +kernel
  have f_49 := hts (.fieldLink RX4 49 "SpectrumHeadsModel" "fault" "I") (by decide +kernel)
  have f_129 := hts (.fieldLink RX4 129 "SpectrumHeadsModel" "fedCount" "I") (by decide +kernel)
  have f_36 := hts (.fieldLink RX4 36 "SpectrumHeadsModel" "fed" "[I") (by decide +kernel)
  obtain ⟨⟨hK1, hK4⟩, hn, ⟨hdn, hwn, hvn⟩, ⟨hkn, hM⟩, ⟨hkd, hpx, hlb⟩, ⟨hF, hfc⟩, hrw⟩ := id hI
  refine lv_aload_n hx hb dX4_feed_0 rfl (lv_at hl 0 rfl) ?_
  refine lv_iconst (v := 0) hx hb dX4_feed_1 (by decide) ?_
  refine va_put (D := D) (ci := 5) (v := .int 0) (ty := .int) (C := RX4) (T := TX4) (N := 17) hx hb hts in_X4 tyX4 tyX4_ok nmX4 hown hK hP hD hS 0 rfl rfl 14 (by decide) f_49 (fun _ h9 => h9) rfl (by decide +kernel) rfl rfl (Nat.le_of_ble_eq_true rfl) dX4_feed_2 (fun H locs hP hD hS => ?_)
  have hP : va_P D vwCl (mwW cI cJ cG R m_ md_ mw_ mv_ mk_ mr_ mo_ mf_ mb_ mx_ mp_ K n dn wn vn tk kn M wo le kd px F fc 0 rw lb) H := hP
  have hD : va_D A (mwW cI cJ cG R m_ md_ mw_ mv_ mk_ mr_ mo_ mf_ mb_ mx_ mp_ K n dn wn vn tk kn M wo le kd px F fc 0 rw lb) := hD
  refine lv_iload_n hx hb dX4_feed_5 rfl (lv_at hl 1 rfl) ?_
  refine gc_Si (As := [.int x]) (rest := []) ⟨hx, hb, hml, hown, hts⟩ (c_X4_isByte l D cI cJ cG H.size _ x) (va_cwS 1 hts gX4_feed_X4_isByte rfl rfl rfl (by decide +kernel) ⟨Nat.le_of_ble_eq_true rfl, Nat.le_of_ble_eq_true rfl⟩) hK hP hD hS hA rfl hl.1 rfl (Nat.le_of_ble_eq_true rfl) dX4_feed_6 ⟨Nat.le_of_ble_eq_true rfl, Nat.le_of_ble_eq_true rfl⟩ (fun r6 u6 H locs h6 hP hD hS => ?_)
  subst h6
  have hP : va_P D vwCl (mwW cI cJ cG R m_ md_ mw_ mv_ mk_ mr_ mo_ mf_ mb_ mx_ mp_ K n dn wn vn tk kn M wo le kd px F fc 0 rw lb) H := hP
  have hD : va_D A (mwW cI cJ cG R m_ md_ mw_ mv_ mk_ mr_ mo_ mf_ mb_ mx_ mp_ K n dn wn vn tk kn M wo le kd px F fc 0 rw lb) := hD
  refine lv_if_eq (tgt := 22) hx hb dX4_feed_9 (by decide) (fun c9 => ?_) (fun c9 => ?_)
  · skip
    have hB9 := bI_0.mp c9
    have hB : (inB x 256 && decide (fc < 400)) = false := by rw [hB9]; rfl
    refine lv_iconst (v := 0) hx hb dX4_feed_22 (by decide) ?_
    subst hQe
    subst hAe
    subst hsz
    exact g_zret hx hb hr hlocks rfl (F, fc) ⟨by rw [hB]; rfl, by rw [hB]; rfl⟩ hP hK hD hS dX4_feed_23
  · skip
    have hB9 := bI_n0.mp c9
    obtain ⟨a, ha_, rfl⟩ := inB_of hB9 (by omega)
    refine lv_aload_n hx hb dX4_feed_12 rfl (lv_at hl 0 rfl) ?_
    refine va_get (D := D) (ci := 5) (v := .int (nI fc)) (C := RX4) (T := TX4) (N := 17) hx hb hts in_X4 hown hK hP 0 rfl rfl 13 (by decide) f_129 (fun _ h9 => h9) rfl dX4_feed_13 ?_
    refine lv_sipush (v := 400) hx hb dX4_feed_16 (by decide) ?_
    refine lv_icmp_ne (tgt := 24) hx hb dX4_feed_19 (by decide) (fun c19 => ?_) (fun c19 => ?_)
    · skip
      have h19 : fc < 400 := by have : ¬ fc = 400 := fun h => c19 (by rw [h]; rfl); omega
      have hB : (inB (nI a) 256 && decide (fc < 400)) = true := by rw [hB9, decide_eq_true h19]; rfl
      refine lv_aload_n hx hb dX4_feed_24 rfl (lv_at hl 0 rfl) ?_
      refine va_get (D := D) (ci := 5) (v := .ref mb_) (C := RX4) (T := TX4) (N := 17) hx hb hts in_X4 hown hK hP 0 rfl rfl 12 (by decide) f_36 (fun _ h9 => h9) rfl dX4_feed_25 ?_
      refine lv_aload_n hx hb dX4_feed_28 rfl (lv_at hl 0 rfl) ?_
      refine va_get (D := D) (ci := 5) (v := .int (nI fc)) (C := RX4) (T := TX4) (N := 17) hx hb hts in_X4 hown hK hP 0 rfl rfl 13 (by decide) f_129 (fun _ h9 => h9) rfl dX4_feed_29 ?_
      refine lv_iload_n hx hb dX4_feed_32 rfl (lv_at hl 1 rfl) ?_
      refine va_iast hx hb hK hP hD hS 8 0 rfl rfl (by first | exact vp_in_nI (by omega) (by omega) | assumption) dX4_feed_33 (fun H locs hP hD hS => ?_)
      rw [nI_clamp (by omega)] at hP hD
      have hP : va_P D vwCl ((m_, .inr (5, [.int (nI K), .ref md_, .ref mw_, .ref mv_, .long tk, .int (nI n), .ref mk_, .ref mr_, .long le, .ref mo_, .int (nI px), .ref mf_, .ref mb_, .int (nI fc), .int 0, .ref mx_, .ref mp_])) :: (md_, .inl (cI, 8, .inl (nf dn))) :: (mw_, .inl (cI, 8, .inl (nf wn))) :: (mv_, .inl (cI, 8, .inl (nf vn))) :: (mk_, .inl (cI, 40, .inl (nf kn))) :: (mr_, .inl (cI, 320, .inl (nf (fM M)))) :: (mo_, .inl (cJ, 4, .inr (.inl wo))) :: (mf_, .inl (cI, 256, .inl (nf kd))) :: (mb_, .inl (cI, 400, .inl (upd (nf F) fc (nI a)))) :: (mx_, .inl (cI, 8, .inl (nf rw))) :: (mp_, .inl (cI, 256, .inl (l1 lb))) :: R) H := hP
      have hD : va_D A ((m_, .inr (5, [.int (nI K), .ref md_, .ref mw_, .ref mv_, .long tk, .int (nI n), .ref mk_, .ref mr_, .long le, .ref mo_, .int (nI px), .ref mf_, .ref mb_, .int (nI fc), .int 0, .ref mx_, .ref mp_])) :: (md_, .inl (cI, 8, .inl (nf dn))) :: (mw_, .inl (cI, 8, .inl (nf wn))) :: (mv_, .inl (cI, 8, .inl (nf vn))) :: (mk_, .inl (cI, 40, .inl (nf kn))) :: (mr_, .inl (cI, 320, .inl (nf (fM M)))) :: (mo_, .inl (cJ, 4, .inr (.inl wo))) :: (mf_, .inl (cI, 256, .inl (nf kd))) :: (mb_, .inl (cI, 400, .inl (upd (nf F) fc (nI a)))) :: (mx_, .inl (cI, 8, .inl (nf rw))) :: (mp_, .inl (cI, 256, .inl (l1 lb))) :: R) := hD
      have hW_ : upd (nf F) fc (nI a) = nf (un F fc a) := by exact nf_upd _ _ _
      rw [hW_] at hP hD
      have hP : va_P D vwCl (mwW cI cJ cG R m_ md_ mw_ mv_ mk_ mr_ mo_ mf_ mb_ mx_ mp_ K n dn wn vn tk kn M wo le kd px (un F fc a) fc 0 rw lb) H := hP
      have hD : va_D A (mwW cI cJ cG R m_ md_ mw_ mv_ mk_ mr_ mo_ mf_ mb_ mx_ mp_ K n dn wn vn tk kn M wo le kd px (un F fc a) fc 0 rw lb) := hD
      refine lv_aload_n hx hb dX4_feed_34 rfl (lv_at hl 0 rfl) ?_
      refine lv_dup hx hb dX4_feed_35 rfl ?_
      refine va_get (D := D) (ci := 5) (v := .int (nI fc)) (C := RX4) (T := TX4) (N := 17) hx hb hts in_X4 hown hK hP 0 rfl rfl 13 (by decide) f_129 (fun _ h9 => h9) rfl dX4_feed_36 ?_
      refine lv_iconst (v := 1) hx hb dX4_feed_39 (by decide) ?_
      refine lv_iadd hx hb dX4_feed_40 ?_
      refine lv_topi (fun x40 ex40 => ?_)
      obtain rfl : x40 = nI (fc + 1) := by rw [ex40]; exact nI_1 _
      refine va_put (D := D) (ci := 5) (v := .int (nI (fc + 1))) (ty := .int) (C := RX4) (T := TX4) (N := 17) hx hb hts in_X4 tyX4 tyX4_ok nmX4 hown hK hP hD hS 0 rfl rfl 13 (by decide) f_129 (fun _ h9 => h9) rfl (by decide +kernel) rfl rfl (Nat.le_of_ble_eq_true rfl) dX4_feed_41 (fun H locs hP hD hS => ?_)
      have hP : va_P D vwCl (mwW cI cJ cG R m_ md_ mw_ mv_ mk_ mr_ mo_ mf_ mb_ mx_ mp_ K n dn wn vn tk kn M wo le kd px (un F fc a) (fc + 1) 0 rw lb) H := hP
      have hD : va_D A (mwW cI cJ cG R m_ md_ mw_ mv_ mk_ mr_ mo_ mf_ mb_ mx_ mp_ K n dn wn vn tk kn M wo le kd px (un F fc a) (fc + 1) 0 rw lb) := hD
      refine lv_iconst (v := 1) hx hb dX4_feed_44 (by decide) ?_
      subst hQe
      subst hAe
      subst hsz
      exact g_zret hx hb hr hlocks rfl (un F fc a, fc + 1) ⟨by rw [hB]; rfl, by rw [hB, nI_clamp (by omega)]; rfl⟩ hP hK hD hS dX4_feed_45
    · skip
      have h19 : fc = 400 := (nI_eq (b := 400) (by omega) (by omega)).mp c19
      have hB : (inB (nI a) 256 && decide (fc < 400)) = false := by rw [decide_eq_false (by omega), Bool.and_false]
      refine lv_iconst (v := 0) hx hb dX4_feed_22 (by decide) ?_
      subst hQe
      subst hAe
      subst hsz
      exact g_zret hx hb hr hlocks rfl (F, fc) ⟨by rw [hB]; rfl, by rw [hB]; rfl⟩ hP hK hD hS dX4_feed_23
