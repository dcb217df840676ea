abbrev rX4_isKnown : Room := { frames := 1, cells := 0, slots := 0, locals := 21 }
set_option maxHeartbeats 4000000 in
set_option maxRecDepth 100000 in
theorem c_X4_isKnown (l : Launch) (D : va_G) (cI cJ cG : ClassId) (sz : Nat) (R : va_W) (m_ md_ mw_ mv_ mk_ mr_ mo_ mf_ mb_ mx_ mp_ : Nat) (K : Nat) (n : Nat) (dn : Nat → Nat) (wn : Nat → Nat) (vn : Nat → Nat) (tk : Int64) (kn : Nat → Nat) (M : Nat → Nat → Nat) (wo : Nat → Int64) (le : Int64) (kd : Nat → Nat) (px : Nat) (F : Nat → Nat) (fc : Nat) (ft : Nat) (rw : Nat → Nat) (lb : Nat → Nat) (x y : Int32) (hI : MI K n dn wn vn kn M kd px F fc rw lb) : Met l yX4_isKnown wsX4_isKnown rX4_isKnown (gP D (tyl cI cJ cG) [.ref m_, .int x, .int y] (mwW cI cJ cG R m_ md_ mw_ mv_ mk_ mr_ mo_ mf_ mb_ mx_ mp_ K n dn wn vn tk kn M wo le kd px F fc ft rw lb) sz) (gQi D (tyl cI cJ cG) (mwW cI cJ cG R m_ md_ mw_ mv_ mk_ mr_ mo_ mf_ mb_ mx_ mp_ K n dn wn vn tk kn M wo le kd px F fc ft rw lb) sz (fun r (_ : Unit) => r = bI ((inB x 16 && inB y 16) && decide (2 ≤ kd (plc x y)))) (fun _ => (mwW cI cJ cG R m_ md_ mw_ mv_ mk_ mr_ mo_ mf_ mb_ mx_ mp_ K n dn wn vn tk kn M wo le kd px F fc ft rw lb))) 0 0 (va_A (mwW cI cJ cG R m_ md_ mw_ mv_ mk_ mr_ mo_ mf_ mb_ mx_ mp_ K n dn wn vn tk kn M wo le kd px F fc ft rw lb) sz) := by
  refine gMet (cc := cX4_isKnown) (maxL := 3) (ret := (some .boolean)) (ls0 := [(0, .ref m_), (1, .int x), (2, .int y)]) (by decide) rfl (Nat.le_of_ble_eq_true rfl) rfl ?_
  intro p e s m below meth c hx hb hr hts hown hlocks hml hname A hA hAe hsz Q hQe H locs hP hK hD hS ls hl
  have hown : s.vm.findClass RX4 = some m.cls := hown
  have in_X4 : ∀ w ∈ wsX40, w ∈ wsX4_isKnown := by decide +kernel
  have f_33 := hts (.fieldLink RX4 33 "SpectrumHeadsModel" "field" "[I") (by decide +kernel)
  obtain ⟨⟨hK1, hK4⟩, hn, ⟨hdn, hwn, hvn⟩, ⟨hkn, hM⟩, ⟨hkd, hpx, hlb⟩, ⟨hF, hfc⟩, hrw⟩ := id hI
  refine lv_iload_n hx hb dX4_isKnown_0 rfl (lv_at hl 1 rfl) ?_
  refine lv_iload_n hx hb dX4_isKnown_1 rfl (lv_at hl 2 rfl) ?_
  refine gc_Si (As := [.int x, .int y]) (rest := []) ⟨hx, hb, hml, hown, hts⟩ (c_X4_isPlace l D cI cJ cG H.size _ x y) (va_cwS 2 hts gX4_isKnown_X4_isPlace rfl rfl rfl (by decide +kernel) ⟨Nat.le_of_ble_eq_true rfl, Nat.le_of_ble_eq_true rfl⟩) hK hP hD hS hA rfl hl.1 rfl (Nat.le_of_ble_eq_true rfl) dX4_isKnown_2 ⟨Nat.le_of_ble_eq_true rfl, Nat.le_of_ble_eq_true rfl⟩ (fun r2 u2 H locs h2 hP hD hS => ?_)
  subst h2
  have hP : va_P D vwCl (mwW cI cJ cG R m_ md_ mw_ mv_ mk_ mr_ mo_ mf_ mb_ mx_ mp_ K n dn wn vn tk kn M wo le kd px F fc ft rw lb) H := hP
  have hD : va_D A (mwW cI cJ cG R m_ md_ mw_ mv_ mk_ mr_ mo_ mf_ mb_ mx_ mp_ K n dn wn vn tk kn M wo le kd px F fc ft rw lb) := hD
  refine lv_if_eq (tgt := 27) hx hb dX4_isKnown_5 (by decide) (fun c5 => ?_) (fun c5 => ?_)
  · skip
    have hB5 := bI_0.mp c5
    refine lv_iconst (v := 0) hx hb dX4_isKnown_27 (by decide) ?_
    subst hQe
    subst hAe
    subst hsz
    exact g_zret hx hb hr hlocks rfl () (by first | (rw [hB5]; rfl) | (rw [isPl_t ha hb_, plc_nI ha hb_, decide_eq_true hz]; rfl) | (rw [isPl_t ha hb_, plc_nI ha hb_, decide_eq_false hz]; rfl)) hP hK hD hS dX4_isKnown_28
  · skip
    have hpl := bI_n0.mp c5
    obtain ⟨a, b, ha, hb_, rfl, rfl⟩ := isPl hpl
    refine lv_aload_n hx hb dX4_isKnown_8 rfl (lv_at hl 0 rfl) ?_
    refine va_get (D := D) (ci := 5) (v := .ref mf_) (C := RX4) (T := TX4) (N := 17) hx hb hts in_X4 hown hK hP 0 rfl rfl 11 (by decide) f_33 (fun _ h9 => h9) rfl dX4_isKnown_9 ?_
    refine lv_bipush (v := 16) hx hb dX4_isKnown_12 (by decide) ?_
    refine lv_iload_n hx hb dX4_isKnown_14 rfl (lv_at hl 2 rfl) ?_
    refine lv_imul hx hb dX4_isKnown_15 ?_
    refine lv_topi (fun x15 ex15 => ?_)
    obtain rfl : x15 = nI (16 * b) := by rw [ex15]; exact pk_mul 16 _
    refine lv_iload_n hx hb dX4_isKnown_16 rfl (lv_at hl 1 rfl) ?_
    refine lv_iadd hx hb dX4_isKnown_17 ?_
    refine lv_topi (fun x17 ex17 => ?_)
    obtain rfl : x17 = nI (16 * b + a) := by rw [ex17]; exact nI_add _ _
    have hk6 := hkd (16 * b + a)
    refine va_iald hx hb hK hP (7) 0 rfl rfl (by first | exact vp_in_nI (by omega) (by omega) | assumption) dX4_isKnown_18 ?_
    refine lv_topi (fun x18 ex18 => ?_)
    rw [nI_clamp (by omega)] at ex18
    obtain rfl : x18 = nI (kd (16 * b + a)) := by exact ex18
    refine lv_iconst (v := 1) hx hb dX4_isKnown_19 (by decide) ?_
    refine lv_icmp_le (tgt := 27) hx hb dX4_isKnown_20 (by decide) (fun c20 => ?_) (fun c20 => ?_)
    · skip
      have hz : ¬ 2 ≤ kd (16 * b + a) := by have := (nI_leI (b := 1) (by omega) (by omega)).mp c20; omega
      refine lv_iconst (v := 0) hx hb dX4_isKnown_27 (by decide) ?_
      subst hQe
      subst hAe
      subst hsz
      exact g_zret hx hb hr hlocks rfl () (by first | (rw [hB5]; rfl) | (rw [isPl_t ha hb_, plc_nI ha hb_, decide_eq_true hz]; rfl) | (rw [isPl_t ha hb_, plc_nI ha hb_, decide_eq_false hz]; rfl)) hP hK hD hS dX4_isKnown_28
    · skip
      have hz : 2 ≤ kd (16 * b + a) := by have := mt (nI_leI (a := kd (16 * b + a)) (b := 1) (by omega) (by omega)).mpr c20; omega
      refine lv_iconst (v := 1) hx hb dX4_isKnown_23 (by decide) ?_
      refine lv_goto (tgt := 28) hx hb dX4_isKnown_24 (by decide) ?_
      subst hQe
      subst hAe
      subst hsz
      exact g_zret hx hb hr hlocks rfl () (by first | (rw [hB5]; rfl) | (rw [isPl_t ha hb_, plc_nI ha hb_, decide_eq_true hz]; rfl) | (rw [isPl_t ha hb_, plc_nI ha hb_, decide_eq_false hz]; rfl)) hP hK hD hS dX4_isKnown_28
abbrev rX4_isOf : Room := { frames := 1, cells := 0, slots := 0, locals := 21 }
set_option maxHeartbeats 4000000 in
set_option maxRecDepth 100000 in
theorem c_X4_isOf (l : Launch) (D : va_G) (cI cJ cG : ClassId) (sz : Nat) (R : va_W) (m_ md_ mw_ mv_ mk_ mr_ mo_ mf_ mb_ mx_ mp_ : Nat) (K : Nat) (n : Nat) (dn : Nat → Nat) (wn : Nat → Nat) (vn : Nat → Nat) (tk : Int64) (kn : Nat → Nat) (M : Nat → Nat → Nat) (wo : Nat → Int64) (le : Int64) (kd : Nat → Nat) (px : Nat) (F : Nat → Nat) (fc : Nat) (ft : Nat) (rw : Nat → Nat) (lb : Nat → Nat) (x y : Int32) (q : Nat) (hq : q ≤ 256) (hI : MI K n dn wn vn kn M kd px F fc rw lb) : Met l yX4_isOf wsX4_isOf rX4_isOf (gP D (tyl cI cJ cG) [.ref m_, .int x, .int y, .int (nI q)] (mwW cI cJ cG R m_ md_ mw_ mv_ mk_ mr_ mo_ mf_ mb_ mx_ mp_ K n dn wn vn tk kn M wo le kd px F fc ft rw lb) sz) (gQi D (tyl cI cJ cG) (mwW cI cJ cG R m_ md_ mw_ mv_ mk_ mr_ mo_ mf_ mb_ mx_ mp_ K n dn wn vn tk kn M wo le kd px F fc ft rw lb) sz (fun r (_ : Unit) => r = bI (ofB lb x y q)) (fun _ => (mwW cI cJ cG R m_ md_ mw_ mv_ mk_ mr_ mo_ mf_ mb_ mx_ mp_ K n dn wn vn tk kn M wo le kd px F fc ft rw lb))) 0 0 (va_A (mwW cI cJ cG R m_ md_ mw_ mv_ mk_ mr_ mo_ mf_ mb_ mx_ mp_ K n dn wn vn tk kn M wo le kd px F fc ft rw lb) sz) := by
  refine gMet (cc := cX4_isOf) (maxL := 4) (ret := (some .boolean)) (ls0 := [(0, .ref m_), (1, .int x), (2, .int y), (3, .int (nI q))]) (by decide) rfl (Nat.le_of_ble_eq_true rfl) rfl ?_
  intro p e s m below meth c hx hb hr hts hown hlocks hml hname A hA hAe hsz Q hQe H locs hP hK hD hS ls hl
  have hown : s.vm.findClass RX4 = some m.cls := hown
  have in_X4 : ∀ w ∈ wsX40, w ∈ wsX4_isOf := by decide +kernel
  have f_42 := hts (.fieldLink RX4 42 "SpectrumHeadsModel" "pieces" "[I") (by decide +kernel)
  obtain ⟨⟨hK1, hK4⟩, hn, ⟨hdn, hwn, hvn⟩, ⟨hkn, hM⟩, ⟨hkd, hpx, hlb⟩, ⟨hF, hfc⟩, hrw⟩ := id hI
  refine lv_iload_n hx hb dX4_isOf_0 rfl (lv_at hl 1 rfl) ?_
  refine lv_iload_n hx hb dX4_isOf_1 rfl (lv_at hl 2 rfl) ?_
  refine gc_Si (As := [.int x, .int y]) (rest := []) ⟨hx, hb, hml, hown, hts⟩ (c_X4_isPlace l D cI cJ cG H.size _ x y) (va_cwS 2 hts gX4_isOf_X4_isPlace rfl rfl rfl (by decide +kernel) ⟨Nat.le_of_ble_eq_true rfl, Nat.le_of_ble_eq_true rfl⟩) hK hP hD hS hA rfl hl.1 rfl (Nat.le_of_ble_eq_true rfl) dX4_isOf_2 ⟨Nat.le_of_ble_eq_true rfl, Nat.le_of_ble_eq_true rfl⟩ (fun r2 u2 H locs h2 hP hD hS => ?_)
  subst h2
  have hP : va_P D vwCl (mwW cI cJ cG R m_ md_ mw_ mv_ mk_ mr_ mo_ mf_ mb_ mx_ mp_ K n dn wn vn tk kn M wo le kd px F fc ft rw lb) H := hP
  have hD : va_D A (mwW cI cJ cG R m_ md_ mw_ mv_ mk_ mr_ mo_ mf_ mb_ mx_ mp_ K n dn wn vn tk kn M wo le kd px F fc ft rw lb) := hD
  refine lv_if_eq (tgt := 27) hx hb dX4_isOf_5 (by decide) (fun c5 => ?_) (fun c5 => ?_)
  · skip
    have hB5 := bI_0.mp c5
    refine lv_iconst (v := 0) hx hb dX4_isOf_27 (by decide) ?_
    subst hQe
    subst hAe
    subst hsz
    exact g_zret hx hb hr hlocks rfl () (by unfold ofB; first | (rw [hB5]; rfl) | (rw [isPl_t ha hb_, plc_nI ha hb_, decide_eq_true hz]; rfl) | (rw [isPl_t ha hb_, plc_nI ha hb_, decide_eq_false hz]; rfl)) hP hK hD hS dX4_isOf_28
  · skip
    have hpl := bI_n0.mp c5
    obtain ⟨a, b, ha, hb_, rfl, rfl⟩ := isPl hpl
    refine lv_aload_n hx hb dX4_isOf_8 rfl (lv_at hl 0 rfl) ?_
    refine va_get (D := D) (ci := 5) (v := .ref mp_) (C := RX4) (T := TX4) (N := 17) hx hb hts in_X4 hown hK hP 0 rfl rfl 16 (by decide) f_42 (fun _ h9 => h9) rfl dX4_isOf_9 ?_
    refine lv_bipush (v := 16) hx hb dX4_isOf_12 (by decide) ?_
    refine lv_iload_n hx hb dX4_isOf_14 rfl (lv_at hl 2 rfl) ?_
    refine lv_imul hx hb dX4_isOf_15 ?_
    refine lv_topi (fun x15 ex15 => ?_)
    obtain rfl : x15 = nI (16 * b) := by rw [ex15]; exact pk_mul 16 _
    refine lv_iload_n hx hb dX4_isOf_16 rfl (lv_at hl 1 rfl) ?_
    refine lv_iadd hx hb dX4_isOf_17 ?_
    refine lv_topi (fun x17 ex17 => ?_)
    obtain rfl : x17 = nI (16 * b + a) := by rw [ex17]; exact nI_add _ _
    have hl6 := hlb (16 * b + a)
    refine va_iald hx hb hK hP (10) 0 rfl rfl (by first | exact vp_in_nI (by omega) (by omega) | assumption) dX4_isOf_18 ?_
    refine lv_topi (fun x18 ex18 => ?_)
    rw [nI_clamp (by omega)] at ex18
    obtain rfl : x18 = nI (lb (16 * b + a)) - 1 := by exact ex18
    refine lv_iload_n hx hb dX4_isOf_19 rfl (lv_at hl 3 rfl) ?_
    refine lv_icmp_ne (tgt := 27) hx hb dX4_isOf_20 (by decide) (fun c20 => ?_) (fun c20 => ?_)
    · skip
      have hz : ¬ lb (16 * b + a) = q + 1 := mt (l1_eq (b := q) (by omega) (by omega)).mpr c20
      refine lv_iconst (v := 0) hx hb dX4_isOf_27 (by decide) ?_
      subst hQe
      subst hAe
      subst hsz
      exact g_zret hx hb hr hlocks rfl () (by unfold ofB; first | (rw [hB5]; rfl) | (rw [isPl_t ha hb_, plc_nI ha hb_, decide_eq_true hz]; rfl) | (rw [isPl_t ha hb_, plc_nI ha hb_, decide_eq_false hz]; rfl)) hP hK hD hS dX4_isOf_28
    · skip
      have hz : lb (16 * b + a) = q + 1 := (l1_eq (by omega) (by omega)).mp c20
      refine lv_iconst (v := 1) hx hb dX4_isOf_23 (by decide) ?_
      refine lv_goto (tgt := 28) hx hb dX4_isOf_24 (by decide) ?_
      subst hQe
      subst hAe
      subst hsz
      exact g_zret hx hb hr hlocks rfl () (by unfold ofB; first | (rw [hB5]; rfl) | (rw [isPl_t ha hb_, plc_nI ha hb_, decide_eq_true hz]; rfl) | (rw [isPl_t ha hb_, plc_nI ha hb_, decide_eq_false hz]; rfl)) hP hK hD hS dX4_isOf_28
abbrev rX4_isBeside : Room := { frames := 2, cells := 0, slots := 0, locals := 44 }
set_option maxHeartbeats 4000000 in
set_option maxRecDepth 100000 in
theorem c_X4_isBeside (l : Launch) (D : va_G) (cI cJ cG : ClassId) (sz : Nat) (R : va_W) (m_ md_ mw_ mv_ mk_ mr_ mo_ mf_ mb_ mx_ mp_ : Nat) (K : Nat) (n : Nat) (dn : Nat → Nat) (wn : Nat → Nat) (vn : Nat → Nat) (tk : Int64) (kn : Nat → Nat) (M : Nat → Nat → Nat) (wo : Nat → Int64) (le : Int64) (kd : Nat → Nat) (px : Nat) (F : Nat → Nat) (fc : Nat) (ft : Nat) (rw : Nat → Nat) (lb : Nat → Nat) (x y : Int32) (q : Nat) (hq : q ≤ 256) (hI : MI K n dn wn vn kn M kd px F fc rw lb) : Met l yX4_isBeside wsX4_isBeside rX4_isBeside (gP D (tyl cI cJ cG) [.ref m_, .int x, .int y, .int (nI q)] (mwW cI cJ cG R m_ md_ mw_ mv_ mk_ mr_ mo_ mf_ mb_ mx_ mp_ K n dn wn vn tk kn M wo le kd px F fc ft rw lb) sz) (gQi D (tyl cI cJ cG) (mwW cI cJ cG R m_ md_ mw_ mv_ mk_ mr_ mo_ mf_ mb_ mx_ mp_ K n dn wn vn tk kn M wo le kd px F fc ft rw lb) sz (fun r (_ : Unit) => r = bI (besB lb x y q)) (fun _ => (mwW cI cJ cG R m_ md_ mw_ mv_ mk_ mr_ mo_ mf_ mb_ mx_ mp_ K n dn wn vn tk kn M wo le kd px F fc ft rw lb))) 0 0 (va_A (mwW cI cJ cG R m_ md_ mw_ mv_ mk_ mr_ mo_ mf_ mb_ mx_ mp_ K n dn wn vn tk kn M wo le kd px F fc ft rw lb) sz) := by
  refine gMet (cc := cX4_isBeside) (maxL := 4) (ret := (some .boolean)) (ls0 := [(0, .ref m_), (1, .int x), (2, .int y), (3, .int (nI q))]) (by decide) rfl (Nat.le_of_ble_eq_true rfl) rfl ?_
  intro p e s m below meth c hx hb hr hts hown hlocks hml hname A hA hAe hsz Q hQe H locs hP hK hD hS ls hl
  have hown : s.vm.findClass RX4 = some m.cls := hown
  obtain ⟨⟨hK1, hK4⟩, hn, ⟨hdn, hwn, hvn⟩, ⟨hkn, hM⟩, ⟨hkd, hpx, hlb⟩, ⟨hF, hfc⟩, hrw⟩ := id hI
  refine lv_aload_n hx hb dX4_isBeside_0 rfl (lv_at hl 0 rfl) ?_
  refine lv_iload_n hx hb dX4_isBeside_1 rfl (lv_at hl 1 rfl) ?_
  refine lv_iconst (v := 1) hx hb dX4_isBeside_2 (by decide) ?_
  refine lv_isub hx hb dX4_isBeside_3 ?_
  refine lv_topi (fun x3 ex3 => ?_)
  obtain rfl : x3 = x - 1 := by exact ex3
  refine lv_iload_n hx hb dX4_isBeside_4 rfl (lv_at hl 2 rfl) ?_
  refine lv_iload_n hx hb dX4_isBeside_5 rfl (lv_at hl 3 rfl) ?_
  refine gc_Vi (As := [.int (x - 1), .int y, .int (nI q)]) (rest := []) (ci := 5) (q0 := 0) ⟨hx, hb, hml, hown, hts⟩ (c_X4_isOf l D cI cJ cG H.size R m_ md_ mw_ mv_ mk_ mr_ mo_ mf_ mb_ mx_ mp_ K n dn wn vn tk kn M wo le kd px F fc ft rw lb (x - 1) y q hq hI) (cwV 3 hts gX4_isBeside_X4_isOf rfl rfl rfl (by decide +kernel) ⟨Nat.le_of_ble_eq_true rfl, Nat.le_of_ble_eq_true rfl⟩) rfl rfl rfl hK hP hD hS hA rfl hl.1 rfl (Nat.le_of_ble_eq_true rfl) dX4_isBeside_6 ⟨Nat.le_of_ble_eq_true rfl, Nat.le_of_ble_eq_true rfl⟩ (fun r6 u6 H locs h6 hP hD hS => ?_)
  subst h6
  have hP : va_P D vwCl (mwW cI cJ cG R m_ md_ mw_ mv_ mk_ mr_ mo_ mf_ mb_ mx_ mp_ K n dn wn vn tk kn M wo le kd px F fc ft rw lb) H := hP
  have hD : va_D A (mwW cI cJ cG R m_ md_ mw_ mv_ mk_ mr_ mo_ mf_ mb_ mx_ mp_ K n dn wn vn tk kn M wo le kd px F fc ft rw lb) := hD
  refine lv_if_ne (tgt := 48) hx hb dX4_isBeside_9 (by decide) (fun c9 => ?_) (fun c9 => ?_)
  · skip
    have h9 := bI_n0.mp c9
    refine lv_iconst (v := 1) hx hb dX4_isBeside_48 (by decide) ?_
    refine lv_goto (tgt := 53) hx hb dX4_isBeside_49 (by decide) ?_
    subst hQe
    subst hAe
    subst hsz
    exact g_zret hx hb hr hlocks rfl () (by unfold besB; first | (rw [h9]; rfl) | (rw [h9, h21]; rfl) | (rw [h9, h21, h33]; rfl) | (rw [h9, h21, h33, h45]; rfl)) hP hK hD hS dX4_isBeside_53
  · skip
    have h9 := bI_0.mp c9
    refine lv_aload_n hx hb dX4_isBeside_12 rfl (lv_at hl 0 rfl) ?_
    refine lv_iload_n hx hb dX4_isBeside_13 rfl (lv_at hl 1 rfl) ?_
    refine lv_iconst (v := 1) hx hb dX4_isBeside_14 (by decide) ?_
    refine lv_iadd hx hb dX4_isBeside_15 ?_
    refine lv_topi (fun x15 ex15 => ?_)
    obtain rfl : x15 = x + 1 := by exact ex15
    refine lv_iload_n hx hb dX4_isBeside_16 rfl (lv_at hl 2 rfl) ?_
    refine lv_iload_n hx hb dX4_isBeside_17 rfl (lv_at hl 3 rfl) ?_
    refine gc_Vi (As := [.int (x + 1), .int y, .int (nI q)]) (rest := []) (ci := 5) (q0 := 0) ⟨hx, hb, hml, hown, hts⟩ (c_X4_isOf l D cI cJ cG H.size R m_ md_ mw_ mv_ mk_ mr_ mo_ mf_ mb_ mx_ mp_ K n dn wn vn tk kn M wo le kd px F fc ft rw lb (x + 1) y q hq hI) (cwV 3 hts gX4_isBeside_X4_isOf rfl rfl rfl (by decide +kernel) ⟨Nat.le_of_ble_eq_true rfl, Nat.le_of_ble_eq_true rfl⟩) rfl rfl rfl hK hP hD hS hA rfl hl.1 rfl (Nat.le_of_ble_eq_true rfl) dX4_isBeside_18 ⟨Nat.le_of_ble_eq_true rfl, Nat.le_of_ble_eq_true rfl⟩ (fun r18 u18 H locs h18 hP hD hS => ?_)
    subst h18
    have hP : va_P D vwCl (mwW cI cJ cG R m_ md_ mw_ mv_ mk_ mr_ mo_ mf_ mb_ mx_ mp_ K n dn wn vn tk kn M wo le kd px F fc ft rw lb) H := hP
    have hD : va_D A (mwW cI cJ cG R m_ md_ mw_ mv_ mk_ mr_ mo_ mf_ mb_ mx_ mp_ K n dn wn vn tk kn M wo le kd px F fc ft rw lb) := hD
    refine lv_if_ne (tgt := 48) hx hb dX4_isBeside_21 (by decide) (fun c21 => ?_) (fun c21 => ?_)
    · skip
      have h21 := bI_n0.mp c21
      refine lv_iconst (v := 1) hx hb dX4_isBeside_48 (by decide) ?_
      refine lv_goto (tgt := 53) hx hb dX4_isBeside_49 (by decide) ?_
      subst hQe
      subst hAe
      subst hsz
      exact g_zret hx hb hr hlocks rfl () (by unfold besB; first | (rw [h9]; rfl) | (rw [h9, h21]; rfl) | (rw [h9, h21, h33]; rfl) | (rw [h9, h21, h33, h45]; rfl)) hP hK hD hS dX4_isBeside_53
    · skip
      have h21 := bI_0.mp c21
      refine lv_aload_n hx hb dX4_isBeside_24 rfl (lv_at hl 0 rfl) ?_
      refine lv_iload_n hx hb dX4_isBeside_25 rfl (lv_at hl 1 rfl) ?_
      refine lv_iload_n hx hb dX4_isBeside_26 rfl (lv_at hl 2 rfl) ?_
      refine lv_iconst (v := 1) hx hb dX4_isBeside_27 (by decide) ?_
      refine lv_isub hx hb dX4_isBeside_28 ?_
      refine lv_topi (fun x28 ex28 => ?_)
      obtain rfl : x28 = y - 1 := by exact ex28
      refine lv_iload_n hx hb dX4_isBeside_29 rfl (lv_at hl 3 rfl) ?_
      refine gc_Vi (As := [.int x, .int (y - 1), .int (nI q)]) (rest := []) (ci := 5) (q0 := 0) ⟨hx, hb, hml, hown, hts⟩ (c_X4_isOf l D cI cJ cG H.size R m_ md_ mw_ mv_ mk_ mr_ mo_ mf_ mb_ mx_ mp_ K n dn wn vn tk kn M wo le kd px F fc ft rw lb x (y - 1) q hq hI) (cwV 3 hts gX4_isBeside_X4_isOf rfl rfl rfl (by decide +kernel) ⟨Nat.le_of_ble_eq_true rfl, Nat.le_of_ble_eq_true rfl⟩) rfl rfl rfl hK hP hD hS hA rfl hl.1 rfl (Nat.le_of_ble_eq_true rfl) dX4_isBeside_30 ⟨Nat.le_of_ble_eq_true rfl, Nat.le_of_ble_eq_true rfl⟩ (fun r30 u30 H locs h30 hP hD hS => ?_)
      subst h30
      have hP : va_P D vwCl (mwW cI cJ cG R m_ md_ mw_ mv_ mk_ mr_ mo_ mf_ mb_ mx_ mp_ K n dn wn vn tk kn M wo le kd px F fc ft rw lb) H := hP
      have hD : va_D A (mwW cI cJ cG R m_ md_ mw_ mv_ mk_ mr_ mo_ mf_ mb_ mx_ mp_ K n dn wn vn tk kn M wo le kd px F fc ft rw lb) := hD
      refine lv_if_ne (tgt := 48) hx hb dX4_isBeside_33 (by decide) (fun c33 => ?_) (fun c33 => ?_)
      · skip
        have h33 := bI_n0.mp c33
        refine lv_iconst (v := 1) hx hb dX4_isBeside_48 (by decide) ?_
        refine lv_goto (tgt := 53) hx hb dX4_isBeside_49 (by decide) ?_
        subst hQe
        subst hAe
        subst hsz
        exact g_zret hx hb hr hlocks rfl () (by unfold besB; first | (rw [h9]; rfl) | (rw [h9, h21]; rfl) | (rw [h9, h21, h33]; rfl) | (rw [h9, h21, h33, h45]; rfl)) hP hK hD hS dX4_isBeside_53
      · skip
        have h33 := bI_0.mp c33
        refine lv_aload_n hx hb dX4_isBeside_36 rfl (lv_at hl 0 rfl) ?_
        refine lv_iload_n hx hb dX4_isBeside_37 rfl (lv_at hl 1 rfl) ?_
        refine lv_iload_n hx hb dX4_isBeside_38 rfl (lv_at hl 2 rfl) ?_
        refine lv_iconst (v := 1) hx hb dX4_isBeside_39 (by decide) ?_
        refine lv_iadd hx hb dX4_isBeside_40 ?_
        refine lv_topi (fun x40 ex40 => ?_)
        obtain rfl : x40 = y + 1 := by exact ex40
        refine lv_iload_n hx hb dX4_isBeside_41 rfl (lv_at hl 3 rfl) ?_
        refine gc_Vi (As := [.int x, .int (y + 1), .int (nI q)]) (rest := []) (ci := 5) (q0 := 0) ⟨hx, hb, hml, hown, hts⟩ (c_X4_isOf l D cI cJ cG H.size R m_ md_ mw_ mv_ mk_ mr_ mo_ mf_ mb_ mx_ mp_ K n dn wn vn tk kn M wo le kd px F fc ft rw lb x (y + 1) q hq hI) (cwV 3 hts gX4_isBeside_X4_isOf rfl rfl rfl (by decide +kernel) ⟨Nat.le_of_ble_eq_true rfl, Nat.le_of_ble_eq_true rfl⟩) rfl rfl rfl hK hP hD hS hA rfl hl.1 rfl (Nat.le_of_ble_eq_true rfl) dX4_isBeside_42 ⟨Nat.le_of_ble_eq_true rfl, Nat.le_of_ble_eq_true rfl⟩ (fun r42 u42 H locs h42 hP hD hS => ?_)
        subst h42
        have hP : va_P D vwCl (mwW cI cJ cG R m_ md_ mw_ mv_ mk_ mr_ mo_ mf_ mb_ mx_ mp_ K n dn wn vn tk kn M wo le kd px F fc ft rw lb) H := hP
        have hD : va_D A (mwW cI cJ cG R m_ md_ mw_ mv_ mk_ mr_ mo_ mf_ mb_ mx_ mp_ K n dn wn vn tk kn M wo le kd px F fc ft rw lb) := hD
        refine lv_if_eq (tgt := 52) hx hb dX4_isBeside_45 (by decide) (fun c45 => ?_) (fun c45 => ?_)
        · skip
          have h45 := bI_0.mp c45
          refine lv_iconst (v := 0) hx hb dX4_isBeside_52 (by decide) ?_
          subst hQe
          subst hAe
          subst hsz
          exact g_zret hx hb hr hlocks rfl () (by unfold besB; first | (rw [h9]; rfl) | (rw [h9, h21]; rfl) | (rw [h9, h21, h33]; rfl) | (rw [h9, h21, h33, h45]; rfl)) hP hK hD hS dX4_isBeside_53
        · skip
          have h45 := bI_n0.mp c45
          refine lv_iconst (v := 1) hx hb dX4_isBeside_48 (by decide) ?_
          refine lv_goto (tgt := 53) hx hb dX4_isBeside_49 (by decide) ?_
          subst hQe
          subst hAe
          subst hsz
          exact g_zret hx hb hr hlocks rfl () (by unfold besB; first | (rw [h9]; rfl) | (rw [h9, h21]; rfl) | (rw [h9, h21, h33]; rfl) | (rw [h9, h21, h33, h45]; rfl)) hP hK hD hS dX4_isBeside_53
abbrev rX4_spread : Room := { frames := 3, cells := 0, slots := 0, locals := 67 }
set_option maxHeartbeats 4000000 in
set_option maxRecDepth 100000 in
theorem c_X4_spread (l : Launch) (D : va_G) (cI cJ cG : ClassId) (sz : Nat) (R : va_W) (m_ md_ mw_ mv_ mk_ mr_ mo_ mf_ mb_ mx_ mp_ : Nat) (K : Nat) (n : Nat) (dn : Nat → Nat) (wn : Nat → Nat) (vn : Nat → Nat) (tk : Int64) (kn : Nat → Nat) (M : Nat → Nat → Nat) (wo : Nat → Int64) (le : Int64) (kd : Nat → Nat) (px : Nat) (F : Nat → Nat) (fc : Nat) (ft : Nat) (rw : Nat → Nat) (lb : Nat → Nat) (q : Nat) (hq : q ≤ 255) (hI : MI K n dn wn vn kn M kd px F fc rw lb) : Met l yX4_spread wsX4_spread rX4_spread (gP D (tyl cI cJ cG) [.ref m_, .int (nI q)] (mwW cI cJ cG R m_ md_ mw_ mv_ mk_ mr_ mo_ mf_ mb_ mx_ mp_ K n dn wn vn tk kn M wo le kd px F fc ft rw lb) sz) (gQv D (tyl cI cJ cG) (mwW cI cJ cG R m_ md_ mw_ mv_ mk_ mr_ mo_ mf_ mb_ mx_ mp_ K n dn wn vn tk kn M wo le kd px F fc ft rw lb) sz (fun (u : Nat → Nat) => u = sprd kd q 257 lb) (fun u => (mwW cI cJ cG R m_ md_ mw_ mv_ mk_ mr_ mo_ mf_ mb_ mx_ mp_ K n dn wn vn tk kn M wo le kd px F fc ft rw u))) 0 0 (va_A (mwW cI cJ cG R m_ md_ mw_ mv_ mk_ mr_ mo_ mf_ mb_ mx_ mp_ K n dn wn vn tk kn M wo le kd px F fc ft rw lb) sz) := by
  refine gMet (cc := cX4_spread) (maxL := 5) (ret := none) (ls0 := [(0, .ref m_), (1, .int (nI q))]) (by decide) rfl (Nat.le_of_ble_eq_true rfl) rfl ?_
  intro p e s m below meth c hx hb hr hts hown hlocks hml hname A hA hAe hsz Q hQe H locs hP hK hD hS ls hl
  have hown : s.vm.findClass RX4 = some m.cls := hown
  have in_X4 : ∀ w ∈ wsX40, w ∈ wsX4_spread := by decide +kernel
  have f_42 := hts (.fieldLink RX4 42 "SpectrumHeadsModel" "pieces" "[I") (by decide +kernel)
  obtain ⟨⟨hK1, hK4⟩, hn, ⟨hdn, hwn, hvn⟩, ⟨hkn, hM⟩, ⟨hkd, hpx, hlb⟩, ⟨hF, hfc⟩, hrw⟩ := id hI
  refine lv_iconst (v := 1) hx hb dX4_spread_0 (by decide) ?_
  refine lv_istore_n (lv' := [(2, .int 1), (0, .ref m_), (1, .int (nI q))]) hx hb dX4_spread_1 rfl hl (by decide) rfl (fun ls hl => ?_)
  have L_2 : ∀ (n_2 : Nat) (f : Nat) (mo : Bool) (lb1 : Nat → Nat) (hz : mo = true → cnt (zer lb1) 256 < f) (hlb1 : ∀ p, lb1 p ≤ 256) (hT : (if mo = true then sprd kd q f lb1 else lb1) = sprd kd q 257 lb), (if mo = true then f else 0) < n_2 → ∀ (H : Heap) (locs : List Loc) (ls : Array Slot), va_P D vwCl (mwW cI cJ cG R m_ md_ mw_ mv_ mk_ mr_ mo_ mf_ mb_ mx_ mp_ K n dn wn vn tk kn M wo le kd px F fc ft rw lb1) H → va_D A (mwW cI cJ cG R m_ md_ mw_ mv_ mk_ mr_ mo_ mf_ mb_ mx_ mp_ K n dn wn vn tk kn M wo le kd px F fc ft rw lb1) → va_S A s.heap H locs → lv_has ls 5 [(2, .int (bI mo)), (0, .ref m_), (1, .int (nI q))] → W p l e (headSpec wsX4_spread rX4_spread).room s m ([.ref m_, .int (nI q)] : List Value).toArray below meth c H locs 0 0 Q (F0 m 2 ls []) := by
    intro n_2
    induction n_2 with
    | zero => intro f mo lb1 hz hlb1 hT hn_; exact absurd hn_ (Nat.not_lt_zero _)
    | succ n_2 ih_2 =>
      intro f mo lb1 hz hlb1 hT hn_2 H locs ls hP hD hS hl
      refine lv_iload_n hx hb dX4_spread_2 rfl (lv_at hl 0 rfl) ?_
      refine lv_if_eq (tgt := 92) hx hb dX4_spread_3 (by decide) (fun c3 => ?_) (fun c3 => ?_)
      · skip
        have hmo := bI_0.mp c3
        subst hmo
        have hT : lb1 = sprd kd q 257 lb := hT
        subst hQe
        subst hAe
        subst hsz
        exact g_vret hx hb hr hlocks lb1 hT hP hK hD hS dX4_spread_92
      · skip
        have hmo := bI_n0.mp c3
        subst hmo
        have hzf := hz rfl
        obtain ⟨f, rfl⟩ : ∃ f1, f = f1 + 1 := ⟨f - 1, by omega⟩
        have hT : sprd kd q (f + 1) lb1 = sprd kd q 257 lb := hT
        refine lv_iconst (v := 0) hx hb dX4_spread_6 (by decide) ?_
        refine lv_istore_n (lv' := [(2, .int 0), (0, .ref m_), (1, .int (nI q))]) hx hb dX4_spread_7 rfl hl (by decide) rfl (fun ls hl => ?_)
        refine lv_iconst (v := 0) hx hb dX4_spread_8 (by decide) ?_
        refine lv_istore_n (lv' := [(3, .int 0), (2, .int 0), (0, .ref m_), (1, .int (nI q))]) hx hb dX4_spread_9 rfl hl (by decide) rfl (fun ls hl => ?_)
        have L_10 : ∀ (n_10 : Nat) (y : Nat) (hy : y ≤ 16), 16 - y < n_10 → ∀ (H : Heap) (locs : List Loc) (ls : Array Slot), va_P D vwCl (mwW cI cJ cG R m_ md_ mw_ mv_ mk_ mr_ mo_ mf_ mb_ mx_ mp_ K n dn wn vn tk kn M wo le kd px F fc ft rw ((swS kd q lb1 (16 * y)).1)) H → va_D A (mwW cI cJ cG R m_ md_ mw_ mv_ mk_ mr_ mo_ mf_ mb_ mx_ mp_ K n dn wn vn tk kn M wo le kd px F fc ft rw ((swS kd q lb1 (16 * y)).1)) → va_S A s.heap H locs → lv_has ls 5 [(3, .int (nI y)), (2, .int (bI (swS kd q lb1 (16 * y)).2)), (0, .ref m_), (1, .int (nI q))] → W p l e (headSpec wsX4_spread rX4_spread).room s m ([.ref m_, .int (nI q)] : List Value).toArray below meth c H locs 0 0 Q (F0 m 10 ls []) := by
          intro n_10
          induction n_10 with
          | zero => intro y hy hn_; exact absurd hn_ (Nat.not_lt_zero _)
          | succ n_10 ih_10 =>
            intro y hy hn_10 H locs ls hP hD hS hl
            refine lv_iload_n hx hb dX4_spread_10 rfl (lv_at hl 0 rfl) ?_
            refine lv_bipush (v := 16) hx hb dX4_spread_11 (by decide) ?_
            refine lv_icmp_ge (tgt := 89) hx hb dX4_spread_13 (by decide) (fun c13 => ?_) (fun c13 => ?_)
            · skip
              have hE13 := lp_e (n := 16) c13 hy
              subst hE13
              refine lv_goto (tgt := 2) hx hb dX4_spread_89 (by decide) ?_
              exact ih_2 f (swS kd q lb1 256).2 (swS kd q lb1 256).1 (fun h => by have := (sw_zer (kd := kd) (q := q) (lb := lb1) 256 (Nat.le_refl _)).2 h; omega) (sw_le (by omega) hlb1 256) hT (Nat.lt_of_le_of_lt if_le (Nat.lt_of_succ_lt_succ hn_2)) H locs ls hP hD hS (lv_sub hl [1, 2, 3] rfl)
            · skip
              have hy8 := lp_l (n := 16) c13 hy
              refine lv_iconst (v := 0) hx hb dX4_spread_16 (by decide) ?_
              refine lv_istore (lv' := [(4, .int 0), (3, .int (nI y)), (2, .int (bI (swS kd q lb1 (16 * y)).2)), (0, .ref m_), (1, .int (nI q))]) hx hb dX4_spread_17 hl (by decide) rfl (fun ls hl => ?_)
              have L_19 : ∀ (n_19 : Nat) (x : Nat) (hx_ : x ≤ 16), 16 - x < n_19 → ∀ (H : Heap) (locs : List Loc) (ls : Array Slot), va_P D vwCl (mwW cI cJ cG R m_ md_ mw_ mv_ mk_ mr_ mo_ mf_ mb_ mx_ mp_ K n dn wn vn tk kn M wo le kd px F fc ft rw ((swS kd q lb1 (16 * y + x)).1)) H → va_D A (mwW cI cJ cG R m_ md_ mw_ mv_ mk_ mr_ mo_ mf_ mb_ mx_ mp_ K n dn wn vn tk kn M wo le kd px F fc ft rw ((swS kd q lb1 (16 * y + x)).1)) → va_S A s.heap H locs → lv_has ls 5 [(4, .int (nI x)), (3, .int (nI y)), (2, .int (bI (swS kd q lb1 (16 * y + x)).2)), (0, .ref m_), (1, .int (nI q))] → W p l e (headSpec wsX4_spread rX4_spread).room s m ([.ref m_, .int (nI q)] : List Value).toArray below meth c H locs 0 0 Q (F0 m 19 ls []) := by
                intro n_19
                induction n_19 with
                | zero => intro x hx_ hn_; exact absurd hn_ (Nat.not_lt_zero _)
                | succ n_19 ih_19 =>
                  intro x hx_ hn_19 H locs ls hP hD hS hl
                  refine lv_iload hx hb dX4_spread_19 (lv_at hl 0 rfl) ?_
                  refine lv_bipush (v := 16) hx hb dX4_spread_21 (by decide) ?_
                  refine lv_icmp_ge (tgt := 83) hx hb dX4_spread_23 (by decide) (fun c23 => ?_) (fun c23 => ?_)
                  · skip
                    have hE23 := lp_e (n := 16) c23 hx_
                    subst hE23
                    rw [show 16 * y + 16 = 16 * (y + 1) by omega] at hP hD hl
                    obtain ⟨x83, ex83⟩ : ∃ y_ : Int32, y_ = (nI y) + 1 := ⟨_, rfl⟩
                    refine lv_iinc (v := x83) (lv' := [(3, .int x83), (4, .int (nI 16)), (2, .int (bI (swS kd q lb1 (16 * (y + 1))).2)), (0, .ref m_), (1, .int (nI q))]) hx hb dX4_spread_83 hl (k := 1) rfl (by rw [ex83]; rfl) (by decide) rfl (fun ls hl => ?_)
                    obtain rfl : x83 = nI (y + 1) := by rw [ex83]; exact nI_1 _
                    refine lv_goto (tgt := 10) hx hb dX4_spread_86 (by decide) ?_
                    exact ih_10 (y + 1) (by omega) (by omega) H locs ls hP hD hS (lv_sub hl [0, 2, 3, 4] rfl)
                  · skip
                    have hx8 := lp_l (n := 16) c23 hx_
                    have hwl := sw_le (kd := kd) (q := q) (by omega) hlb1 (16 * y + x) (16 * y + x)
                    refine lv_aload_n hx hb dX4_spread_26 rfl (lv_at hl 3 rfl) ?_
                    refine lv_iload hx hb dX4_spread_27 (lv_at hl 0 rfl) ?_
                    refine lv_iload_n hx hb dX4_spread_29 rfl (lv_at hl 1 rfl) ?_
                    refine gc_Vi (As := [.int (nI x), .int (nI y)]) (rest := []) (ci := 5) (q0 := 0) ⟨hx, hb, hml, hown, hts⟩ (c_X4_isKnown l D cI cJ cG H.size R m_ md_ mw_ mv_ mk_ mr_ mo_ mf_ mb_ mx_ mp_ K n dn wn vn tk kn M wo le kd px F fc ft rw ((swS kd q lb1 (16 * y + x)).1) (nI x) (nI y) (MI_lb hI (sw_le (by omega) hlb1 _))) (cwV 2 hts gX4_spread_X4_isKnown rfl rfl rfl (by decide +kernel) ⟨Nat.le_of_ble_eq_true rfl, Nat.le_of_ble_eq_true rfl⟩) rfl rfl rfl hK hP hD hS hA rfl hl.1 rfl (Nat.le_of_ble_eq_true rfl) dX4_spread_30 ⟨Nat.le_of_ble_eq_true rfl, Nat.le_of_ble_eq_true rfl⟩ (fun r30 u30 H locs h30 hP hD hS => ?_)
                    subst h30
                    have hP : va_P D vwCl (mwW cI cJ cG R m_ md_ mw_ mv_ mk_ mr_ mo_ mf_ mb_ mx_ mp_ K n dn wn vn tk kn M wo le kd px F fc ft rw ((swS kd q lb1 (16 * y + x)).1)) H := hP
                    have hD : va_D A (mwW cI cJ cG R m_ md_ mw_ mv_ mk_ mr_ mo_ mf_ mb_ mx_ mp_ K n dn wn vn tk kn M wo le kd px F fc ft rw ((swS kd q lb1 (16 * y + x)).1)) := hD
                    refine lv_if_eq (tgt := 77) hx hb dX4_spread_33 (by decide) (fun c33 => ?_) (fun c33 => ?_)
                    · skip
                      have hk0 := bI_0.mp c33
                      have hno : ¬ (2 ≤ kd (16 * y + x) ∧ (swS kd q lb1 (16 * y + x)).1 (16 * y + x) = 0 ∧ besB (swS kd q lb1 (16 * y + x)).1 (nI x) (nI y) q = true) := fun h => by rw [isPl_t hx8 hy8, plc_nI hx8 hy8, decide_eq_true h.1] at hk0; cases hk0
                      rw [sw_n hx8 hno] at hP hD hl
                      obtain ⟨x77, ex77⟩ : ∃ y : Int32, y = (nI x) + 1 := ⟨_, rfl⟩
                      refine lv_iinc (v := x77) (lv' := [(4, .int x77), (3, .int (nI y)), (2, .int (bI (swS kd q lb1 (16 * y + x + 1)).2)), (0, .ref m_), (1, .int (nI q))]) hx hb dX4_spread_77 hl (k := 0) rfl (by rw [ex77]; rfl) (by decide) rfl (fun ls hl => ?_)
                      obtain rfl : x77 = nI (x + 1) := by rw [ex77]; exact nI_1 _
                      refine lv_goto (tgt := 19) hx hb dX4_spread_80 (by decide) ?_
                      exact ih_19 (x + 1) (by omega) (by omega) H locs ls hP hD hS (lv_sub hl [0, 1, 2, 3, 4] rfl)
                    · skip
                      have hk1 := bI_n0.mp c33
                      have hkn2 : 2 ≤ kd (16 * y + x) := by rw [isPl_t hx8 hy8, plc_nI hx8 hy8] at hk1; exact of_decide_eq_true hk1
                      refine lv_aload_n hx hb dX4_spread_36 rfl (lv_at hl 3 rfl) ?_
                      refine va_get (D := D) (ci := 5) (v := .ref mp_) (C := RX4) (T := TX4) (N := 17) hx hb hts in_X4 hown hK hP 0 rfl rfl 16 (by decide) f_42 (fun _ h9 => h9) rfl dX4_spread_37 ?_
                      refine lv_bipush (v := 16) hx hb dX4_spread_40 (by decide) ?_
                      refine lv_iload_n hx hb dX4_spread_42 rfl (lv_at hl 1 rfl) ?_
                      refine lv_imul hx hb dX4_spread_43 ?_
                      refine lv_topi (fun x43 ex43 => ?_)
                      obtain rfl : x43 = nI (16 * y) := by rw [ex43]; exact pk_mul 16 _
                      refine lv_iload hx hb dX4_spread_44 (lv_at hl 0 rfl) ?_
                      refine lv_iadd hx hb dX4_spread_46 ?_
                      refine lv_topi (fun x46 ex46 => ?_)
                      obtain rfl : x46 = nI (16 * y + x) := by rw [ex46]; exact nI_add _ _
                      refine va_iald hx hb hK hP (10) 0 rfl rfl (by first | exact vp_in_nI (by omega) (by omega) | assumption) dX4_spread_47 ?_
                      refine lv_topi (fun x47 ex47 => ?_)
                      rw [nI_clamp (by omega)] at ex47
                      obtain rfl : x47 = nI ((swS kd q lb1 (16 * y + x)).1 (16 * y + x)) - 1 := by exact ex47
                      refine lv_if_ge (tgt := 77) hx hb dX4_spread_48 (by decide) (fun c48 => ?_) (fun c48 => ?_)
                      · skip
                        have hno : ¬ (2 ≤ kd (16 * y + x) ∧ (swS kd q lb1 (16 * y + x)).1 (16 * y + x) = 0 ∧ besB (swS kd q lb1 (16 * y + x)).1 (nI x) (nI y) q = true) := fun h => (l1_ge (by omega)).mp c48 h.2.1
                        rw [sw_n hx8 hno] at hP hD hl
                        obtain ⟨x77, ex77⟩ : ∃ y : Int32, y = (nI x) + 1 := ⟨_, rfl⟩
                        refine lv_iinc (v := x77) (lv' := [(4, .int x77), (3, .int (nI y)), (2, .int (bI (swS kd q lb1 (16 * y + x + 1)).2)), (0, .ref m_), (1, .int (nI q))]) hx hb dX4_spread_77 hl (k := 0) rfl (by rw [ex77]; rfl) (by decide) rfl (fun ls hl => ?_)
                        obtain rfl : x77 = nI (x + 1) := by rw [ex77]; exact nI_1 _
                        refine lv_goto (tgt := 19) hx hb dX4_spread_80 (by decide) ?_
                        exact ih_19 (x + 1) (by omega) (by omega) H locs ls hP hD hS (lv_sub hl [0, 1, 2, 3, 4] rfl)
                      · skip
                        have hl0 : (swS kd q lb1 (16 * y + x)).1 (16 * y + x) = 0 := Classical.byContradiction (fun h => c48 ((l1_ge (by omega)).mpr h))
                        refine lv_aload_n hx hb dX4_spread_51 rfl (lv_at hl 3 rfl) ?_
                        refine lv_iload hx hb dX4_spread_52 (lv_at hl 0 rfl) ?_
                        refine lv_iload_n hx hb dX4_spread_54 rfl (lv_at hl 1 rfl) ?_
                        refine lv_iload_n hx hb dX4_spread_55 rfl (lv_at hl 4 rfl) ?_
                        refine gc_Vi (As := [.int (nI x), .int (nI y), .int (nI q)]) (rest := []) (ci := 5) (q0 := 0) ⟨hx, hb, hml, hown, hts⟩ (c_X4_isBeside l D cI cJ cG H.size R m_ md_ mw_ mv_ mk_ mr_ mo_ mf_ mb_ mx_ mp_ K n dn wn vn tk kn M wo le kd px F fc ft rw ((swS kd q lb1 (16 * y + x)).1) (nI x) (nI y) q (by omega) (MI_lb hI (sw_le (by omega) hlb1 _))) (cwV 3 hts gX4_spread_X4_isBeside rfl rfl rfl (by decide +kernel) ⟨Nat.le_of_ble_eq_true rfl, Nat.le_of_ble_eq_true rfl⟩) rfl rfl rfl hK hP hD hS hA rfl hl.1 rfl (Nat.le_of_ble_eq_true rfl) dX4_spread_56 ⟨Nat.le_of_ble_eq_true rfl, Nat.le_of_ble_eq_true rfl⟩ (fun r56 u56 H locs h56 hP hD hS => ?_)
                        subst h56
                        have hP : va_P D vwCl (mwW cI cJ cG R m_ md_ mw_ mv_ mk_ mr_ mo_ mf_ mb_ mx_ mp_ K n dn wn vn tk kn M wo le kd px F fc ft rw ((swS kd q lb1 (16 * y + x)).1)) H := hP
                        have hD : va_D A (mwW cI cJ cG R m_ md_ mw_ mv_ mk_ mr_ mo_ mf_ mb_ mx_ mp_ K n dn wn vn tk kn M wo le kd px F fc ft rw ((swS kd q lb1 (16 * y + x)).1)) := hD
                        refine lv_if_eq (tgt := 77) hx hb dX4_spread_59 (by decide) (fun c59 => ?_) (fun c59 => ?_)
                        · skip
                          have hb0 := bI_0.mp c59
                          have hno : ¬ (2 ≤ kd (16 * y + x) ∧ (swS kd q lb1 (16 * y + x)).1 (16 * y + x) = 0 ∧ besB (swS kd q lb1 (16 * y + x)).1 (nI x) (nI y) q = true) := fun h => by rw [h.2.2] at hb0; cases hb0
                          rw [sw_n hx8 hno] at hP hD hl
                          obtain ⟨x77, ex77⟩ : ∃ y : Int32, y = (nI x) + 1 := ⟨_, rfl⟩
                          refine lv_iinc (v := x77) (lv' := [(4, .int x77), (3, .int (nI y)), (2, .int (bI (swS kd q lb1 (16 * y + x + 1)).2)), (0, .ref m_), (1, .int (nI q))]) hx hb dX4_spread_77 hl (k := 0) rfl (by rw [ex77]; rfl) (by decide) rfl (fun ls hl => ?_)
                          obtain rfl : x77 = nI (x + 1) := by rw [ex77]; exact nI_1 _
                          refine lv_goto (tgt := 19) hx hb dX4_spread_80 (by decide) ?_
                          exact ih_19 (x + 1) (by omega) (by omega) H locs ls hP hD hS (lv_sub hl [0, 1, 2, 3, 4] rfl)
                        · skip
                          have hbs := bI_n0.mp c59
                          refine lv_aload_n hx hb dX4_spread_62 rfl (lv_at hl 3 rfl) ?_
                          refine va_get (D := D) (ci := 5) (v := .ref mp_) (C := RX4) (T := TX4) (N := 17) hx hb hts in_X4 hown hK hP 0 rfl rfl 16 (by decide) f_42 (fun _ h9 => h9) rfl dX4_spread_63 ?_
                          refine lv_bipush (v := 16) hx hb dX4_spread_66 (by decide) ?_
                          refine lv_iload_n hx hb dX4_spread_68 rfl (lv_at hl 1 rfl) ?_
                          refine lv_imul hx hb dX4_spread_69 ?_
                          refine lv_topi (fun x69 ex69 => ?_)
                          obtain rfl : x69 = nI (16 * y) := by rw [ex69]; exact pk_mul 16 _
                          refine lv_iload hx hb dX4_spread_70 (lv_at hl 0 rfl) ?_
                          refine lv_iadd hx hb dX4_spread_72 ?_
                          refine lv_topi (fun x72 ex72 => ?_)
                          obtain rfl : x72 = nI (16 * y + x) := by rw [ex72]; exact nI_add _ _
                          refine lv_iload_n hx hb dX4_spread_73 rfl (lv_at hl 4 rfl) ?_
                          refine va_iast hx hb hK hP hD hS 10 0 rfl rfl (by first | exact vp_in_nI (by omega) (by omega) | assumption) dX4_spread_74 (fun H locs hP hD hS => ?_)
                          rw [nI_clamp (by omega)] at hP hD
                          have hP : va_P D vwCl ((m_, .inr (5, [.int (nI K), .ref md_, .ref mw_, .ref mv_, .long tk, .int (nI n), .ref mk_, .ref mr_, .long le, .ref mo_, .int (nI px), .ref mf_, .ref mb_, .int (nI fc), .int (nI ft), .ref mx_, .ref mp_])) :: (md_, .inl (cI, 8, .inl (nf dn))) :: (mw_, .inl (cI, 8, .inl (nf wn))) :: (mv_, .inl (cI, 8, .inl (nf vn))) :: (mk_, .inl (cI, 40, .inl (nf kn))) :: (mr_, .inl (cI, 320, .inl (nf (fM M)))) :: (mo_, .inl (cJ, 4, .inr (.inl wo))) :: (mf_, .inl (cI, 256, .inl (nf kd))) :: (mb_, .inl (cI, 400, .inl (nf F))) :: (mx_, .inl (cI, 8, .inl (nf rw))) :: (mp_, .inl (cI, 256, .inl (upd (l1 ((swS kd q lb1 (16 * y + x)).1)) (16 * y + x) (nI q)))) :: R) H := hP
                          have hD : va_D A ((m_, .inr (5, [.int (nI K), .ref md_, .ref mw_, .ref mv_, .long tk, .int (nI n), .ref mk_, .ref mr_, .long le, .ref mo_, .int (nI px), .ref mf_, .ref mb_, .int (nI fc), .int (nI ft), .ref mx_, .ref mp_])) :: (md_, .inl (cI, 8, .inl (nf dn))) :: (mw_, .inl (cI, 8, .inl (nf wn))) :: (mv_, .inl (cI, 8, .inl (nf vn))) :: (mk_, .inl (cI, 40, .inl (nf kn))) :: (mr_, .inl (cI, 320, .inl (nf (fM M)))) :: (mo_, .inl (cJ, 4, .inr (.inl wo))) :: (mf_, .inl (cI, 256, .inl (nf kd))) :: (mb_, .inl (cI, 400, .inl (nf F))) :: (mx_, .inl (cI, 8, .inl (nf rw))) :: (mp_, .inl (cI, 256, .inl (upd (l1 ((swS kd q lb1 (16 * y + x)).1)) (16 * y + x) (nI q)))) :: R) := hD
                          have hW_ : upd (l1 ((swS kd q lb1 (16 * y + x)).1)) (16 * y + x) (nI q) = l1 (un (swS kd q lb1 (16 * y + x)).1 (16 * y + x) (q + 1)) := by exact l1_upd _ _ _
                          rw [hW_] at hP hD
                          have hP : va_P D vwCl (mwW cI cJ cG R m_ md_ mw_ mv_ mk_ mr_ mo_ mf_ mb_ mx_ mp_ K n dn wn vn tk kn M wo le kd px F fc ft rw (un (swS kd q lb1 (16 * y + x)).1 (16 * y + x) (q + 1))) H := hP
                          have hD : va_D A (mwW cI cJ cG R m_ md_ mw_ mv_ mk_ mr_ mo_ mf_ mb_ mx_ mp_ K n dn wn vn tk kn M wo le kd px F fc ft rw (un (swS kd q lb1 (16 * y + x)).1 (16 * y + x) (q + 1))) := hD
                          refine lv_iconst (v := 1) hx hb dX4_spread_75 (by decide) ?_
                          refine lv_istore_n (lv' := [(2, .int 1), (4, .int (nI x)), (3, .int (nI y)), (0, .ref m_), (1, .int (nI q))]) hx hb dX4_spread_76 rfl hl (by decide) rfl (fun ls hl => ?_)
                          have hst := sw_y hx8 hkn2 hl0 hbs
                          have hP : va_P D vwCl (mwW cI cJ cG R m_ md_ mw_ mv_ mk_ mr_ mo_ mf_ mb_ mx_ mp_ K n dn wn vn tk kn M wo le kd px F fc ft rw ((swS kd q lb1 (16 * y + x + 1)).1)) H := by rw [← hst]; exact hP
                          have hD : va_D A (mwW cI cJ cG R m_ md_ mw_ mv_ mk_ mr_ mo_ mf_ mb_ mx_ mp_ K n dn wn vn tk kn M wo le kd px F fc ft rw ((swS kd q lb1 (16 * y + x + 1)).1)) := by rw [← hst]; exact hD
                          have hl : lv_has ls 5 [(2, .int (bI (swS kd q lb1 (16 * y + x + 1)).2)), (4, .int (nI x)), (3, .int (nI y)), (0, .ref m_), (1, .int (nI q))] := by rw [← hst]; exact hl
                          obtain ⟨x77, ex77⟩ : ∃ y : Int32, y = (nI x) + 1 := ⟨_, rfl⟩
                          refine lv_iinc (v := x77) (lv' := [(4, .int x77), (2, .int (bI (swS kd q lb1 (16 * y + x + 1)).2)), (3, .int (nI y)), (0, .ref m_), (1, .int (nI q))]) hx hb dX4_spread_77 hl (k := 1) rfl (by rw [ex77]; rfl) (by decide) rfl (fun ls hl => ?_)
                          obtain rfl : x77 = nI (x + 1) := by rw [ex77]; exact nI_1 _
                          refine lv_goto (tgt := 19) hx hb dX4_spread_80 (by decide) ?_
                          exact ih_19 (x + 1) (by omega) (by omega) H locs ls hP hD hS (lv_sub hl [0, 2, 1, 3, 4] rfl)
              exact L_19 _ 0 (Nat.zero_le _) (Nat.lt_succ_self _) H locs ls hP hD hS (lv_sub hl [0, 1, 2, 3, 4] rfl)
        exact L_10 _ 0 (Nat.zero_le _) (Nat.lt_succ_self _) H locs ls hP hD hS (lv_sub hl [0, 1, 2, 3] rfl)
  exact L_2 _ 257 true lb (fun _ => Nat.lt_succ_of_le (cnt_le _ _)) hlb rfl (Nat.lt_succ_self _) H locs ls hP hD hS (lv_sub hl [0, 1, 2] rfl)
abbrev rX4_find : Room := { frames := 4, cells := 0, slots := 0, locals := 91 }
set_option maxHeartbeats 4000000 in
set_option maxRecDepth 100000 in
theorem c_X4_find (l : Launch) (D : va_G) (cI cJ cG : ClassId) (sz : Nat) (R : va_W) (m_ md_ mw_ mv_ mk_ mr_ mo_ mf_ mb_ mx_ mp_ : Nat) (K : Nat) (n : Nat) (dn : Nat → Nat) (wn : Nat → Nat) (vn : Nat → Nat) (tk : Int64) (kn : Nat → Nat) (M : Nat → Nat → Nat) (wo : Nat → Int64) (le : Int64) (kd : Nat → Nat) (px : Nat) (F : Nat → Nat) (fc : Nat) (ft : Nat) (rw : Nat → Nat) (lb : Nat → Nat) (hI : MI K n dn wn vn kn M kd px F fc rw lb) : Met l yX4_find wsX4_find rX4_find (gP D (tyl cI cJ cG) [.ref m_] (mwW cI cJ cG R m_ md_ mw_ mv_ mk_ mr_ mo_ mf_ mb_ mx_ mp_ K n dn wn vn tk kn M wo le kd px F fc ft rw lb) sz) (gQi D (tyl cI cJ cG) (mwW cI cJ cG R m_ md_ mw_ mv_ mk_ mr_ mo_ mf_ mb_ mx_ mp_ K n dn wn vn tk kn M wo le kd px F fc ft rw lb) sz (fun r (u : Nat → Nat) => r = nI (FN kd lb).2 ∧ u = (FN kd lb).1) (fun u => (mwW cI cJ cG R m_ md_ mw_ mv_ mk_ mr_ mo_ mf_ mb_ mx_ mp_ K n dn wn vn tk kn M wo le kd px F fc ft rw u))) 0 0 (va_A (mwW cI cJ cG R m_ md_ mw_ mv_ mk_ mr_ mo_ mf_ mb_ mx_ mp_ K n dn wn vn tk kn M wo le kd px F fc ft rw lb) sz) := by
  refine gMet (cc := cX4_find) (maxL := 3) (ret := (some .int)) (ls0 := [(0, .ref m_)]) (by decide) rfl (Nat.le_of_ble_eq_true rfl) rfl ?_
  intro p e s m below meth c hx hb hr hts hown hlocks hml hname A hA hAe hsz Q hQe H locs hP hK hD hS ls hl
  have hown : s.vm.findClass RX4 = some m.cls := hown
  have in_X4 : ∀ w ∈ wsX40, w ∈ wsX4_find := by decide +kernel
  have f_33 := hts (.fieldLink RX4 33 "SpectrumHeadsModel" "field" "[I") (by decide +kernel)
  have f_42 := hts (.fieldLink RX4 42 "SpectrumHeadsModel" "pieces" "[I") (by decide +kernel)
  obtain ⟨⟨hK1, hK4⟩, hn, ⟨hdn, hwn, hvn⟩, ⟨hkn, hM⟩, ⟨hkd, hpx, hlb⟩, ⟨hF, hfc⟩, hrw⟩ := id hI
  rw [← fu_0 (g := fun _ => 0) (f := lb)] at hP hD
  refine lv_iconst (v := 0) hx hb dX4_find_0 (by decide) ?_
  refine lv_istore_n (lv' := [(1, .int 0), (0, .ref m_)]) hx hb dX4_find_1 rfl hl (by decide) rfl (fun ls hl => ?_)
  have L_2 : ∀ (n_2 : Nat) (i : Nat) (hi : i ≤ 256), 256 - i < n_2 → ∀ (H : Heap) (locs : List Loc) (ls : Array Slot), va_P D vwCl (mwW cI cJ cG R m_ md_ mw_ mv_ mk_ mr_ mo_ mf_ mb_ mx_ mp_ K n dn wn vn tk kn M wo le kd px F fc ft rw (fu (fun _ => 0) lb i)) H → va_D A (mwW cI cJ cG R m_ md_ mw_ mv_ mk_ mr_ mo_ mf_ mb_ mx_ mp_ K n dn wn vn tk kn M wo le kd px F fc ft rw (fu (fun _ => 0) lb i)) → va_S A s.heap H locs → lv_has ls 3 [(1, .int (nI i)), (0, .ref m_)] → W p l e (headSpec wsX4_find rX4_find).room s m ([.ref m_] : List Value).toArray below meth c H locs 0 0 Q (F0 m 2 ls []) := by
    intro n_2
    induction n_2 with
    | zero => intro i hi hn_; exact absurd hn_ (Nat.not_lt_zero _)
    | succ n_2 ih_2 =>
      intro i hi hn_2 H locs ls hP hD hS hl
      refine lv_iload_n hx hb dX4_find_2 rfl (lv_at hl 0 rfl) ?_
      refine lv_sipush (v := 256) hx hb dX4_find_3 (by decide) ?_
      refine lv_icmp_ge (tgt := 22) hx hb dX4_find_6 (by decide) (fun c6 => ?_) (fun c6 => ?_)
      · skip
        have hE6 := lp_e (n := 256) c6 hi
        subst hE6
        refine lv_iconst (v := 0) hx hb dX4_find_22 (by decide) ?_
        refine lv_istore_n (lv' := [(1, .int 0), (0, .ref m_)]) hx hb dX4_find_23 rfl hl (by decide) rfl (fun ls hl => ?_)
        refine lv_iconst (v := 0) hx hb dX4_find_24 (by decide) ?_
        refine lv_istore_n (lv' := [(2, .int 0), (1, .int 0), (0, .ref m_)]) hx hb dX4_find_25 rfl hl (by decide) rfl (fun ls hl => ?_)
        have L_26 : ∀ (n_26 : Nat) (i : Nat) (hi : i ≤ 256), 256 - i < n_26 → ∀ (H : Heap) (locs : List Loc) (ls : Array Slot), va_P D vwCl (mwW cI cJ cG R m_ md_ mw_ mv_ mk_ mr_ mo_ mf_ mb_ mx_ mp_ K n dn wn vn tk kn M wo le kd px F fc ft rw ((fnS kd (fu (fun _ => 0) lb 256) i).1)) H → va_D A (mwW cI cJ cG R m_ md_ mw_ mv_ mk_ mr_ mo_ mf_ mb_ mx_ mp_ K n dn wn vn tk kn M wo le kd px F fc ft rw ((fnS kd (fu (fun _ => 0) lb 256) i).1)) → va_S A s.heap H locs → lv_has ls 3 [(2, .int (nI i)), (1, .int (nI (fnS kd (fu (fun _ => 0) lb 256) i).2)), (0, .ref m_)] → W p l e (headSpec wsX4_find rX4_find).room s m ([.ref m_] : List Value).toArray below meth c H locs 0 0 Q (F0 m 26 ls []) := by
          intro n_26
          induction n_26 with
          | zero => intro i hi hn_; exact absurd hn_ (Nat.not_lt_zero _)
          | succ n_26 ih_26 =>
            intro i hi hn_26 H locs ls hP hD hS hl
            refine lv_iload_n hx hb dX4_find_26 rfl (lv_at hl 0 rfl) ?_
            refine lv_sipush (v := 256) hx hb dX4_find_27 (by decide) ?_
            refine lv_icmp_ge (tgt := 73) hx hb dX4_find_30 (by decide) (fun c30 => ?_) (fun c30 => ?_)
            · skip
              have hE30 := lp_e (n := 256) c30 hi
              subst hE30
              refine lv_iload_n hx hb dX4_find_73 rfl (lv_at hl 1 rfl) ?_
              subst hQe
              subst hAe
              subst hsz
              exact g_iret hx hb hr hlocks (FN kd lb).1 ⟨rfl, rfl⟩ hP hK hD hS dX4_find_74
            · skip
              have hi8 := lp_l (n := 256) c30 hi
              have hfc2 := fn_cnt kd (fu (fun _ => 0) lb 256) i
              have hfl := fn_le (kd := kd) (clr_le (n := 256) hlb) i hi
              have hfli := hfl i
              have hk6 := hkd i
              refine lv_aload_n hx hb dX4_find_33 rfl (lv_at hl 2 rfl) ?_
              refine va_get (D := D) (ci := 5) (v := .ref mf_) (C := RX4) (T := TX4) (N := 17) hx hb hts in_X4 hown hK hP 0 rfl rfl 11 (by decide) f_33 (fun _ h9 => h9) rfl dX4_find_34 ?_
              refine lv_iload_n hx hb dX4_find_37 rfl (lv_at hl 0 rfl) ?_
              refine va_iald hx hb hK hP (7) 0 rfl rfl (by first | exact vp_in_nI (by omega) (by omega) | assumption) dX4_find_38 ?_
              refine lv_topi (fun x38 ex38 => ?_)
              rw [nI_clamp (by omega)] at ex38
              obtain rfl : x38 = nI (kd i) := by exact ex38
              refine lv_iconst (v := 1) hx hb dX4_find_39 (by decide) ?_
              refine lv_icmp_le (tgt := 67) hx hb dX4_find_40 (by decide) (fun c40 => ?_) (fun c40 => ?_)
              · skip
                have hno : ¬ (2 ≤ kd i ∧ (fnS kd (fu (fun _ => 0) lb 256) i).1 i = 0) := fun h => by have := (nI_leI (b := 1) (by omega) (by omega)).mp c40; omega
                rw [fn_n hno] at hP hD hl
                obtain ⟨x67, ex67⟩ : ∃ y : Int32, y = (nI i) + 1 := ⟨_, rfl⟩
                refine lv_iinc (v := x67) (lv' := [(2, .int x67), (1, .int (nI (fnS kd (fu (fun _ => 0) lb 256) (i + 1)).2)), (0, .ref m_)]) hx hb dX4_find_67 hl (k := 0) rfl (by rw [ex67]; rfl) (by decide) rfl (fun ls hl => ?_)
                obtain rfl : x67 = nI (i + 1) := by rw [ex67]; exact nI_1 _
                refine lv_goto (tgt := 26) hx hb dX4_find_70 (by decide) ?_
                exact ih_26 (i + 1) (by omega) (by omega) H locs ls hP hD hS (lv_sub hl [0, 1, 2] rfl)
              · skip
                have hk2 : 2 ≤ kd i := by have := mt (nI_leI (a := kd i) (b := 1) (by omega) (by omega)).mpr c40; omega
                refine lv_aload_n hx hb dX4_find_43 rfl (lv_at hl 2 rfl) ?_
                refine va_get (D := D) (ci := 5) (v := .ref mp_) (C := RX4) (T := TX4) (N := 17) hx hb hts in_X4 hown hK hP 0 rfl rfl 16 (by decide) f_42 (fun _ h9 => h9) rfl dX4_find_44 ?_
                refine lv_iload_n hx hb dX4_find_47 rfl (lv_at hl 0 rfl) ?_
                refine va_iald hx hb hK hP (10) 0 rfl rfl (by first | exact vp_in_nI (by omega) (by omega) | assumption) dX4_find_48 ?_
                refine lv_topi (fun x48 ex48 => ?_)
                rw [nI_clamp (by omega)] at ex48
                obtain rfl : x48 = nI ((fnS kd (fu (fun _ => 0) lb 256) i).1 i) - 1 := by exact ex48
                refine lv_if_ge (tgt := 67) hx hb dX4_find_49 (by decide) (fun c49 => ?_) (fun c49 => ?_)
                · skip
                  have hno : ¬ (2 ≤ kd i ∧ (fnS kd (fu (fun _ => 0) lb 256) i).1 i = 0) := fun h => (l1_ge (by omega)).mp c49 h.2
                  rw [fn_n hno] at hP hD hl
                  obtain ⟨x67, ex67⟩ : ∃ y : Int32, y = (nI i) + 1 := ⟨_, rfl⟩
                  refine lv_iinc (v := x67) (lv' := [(2, .int x67), (1, .int (nI (fnS kd (fu (fun _ => 0) lb 256) (i + 1)).2)), (0, .ref m_)]) hx hb dX4_find_67 hl (k := 0) rfl (by rw [ex67]; rfl) (by decide) rfl (fun ls hl => ?_)
                  obtain rfl : x67 = nI (i + 1) := by rw [ex67]; exact nI_1 _
                  refine lv_goto (tgt := 26) hx hb dX4_find_70 (by decide) ?_
                  exact ih_26 (i + 1) (by omega) (by omega) H locs ls hP hD hS (lv_sub hl [0, 1, 2] rfl)
                · skip
                  have hl0 : (fnS kd (fu (fun _ => 0) lb 256) i).1 i = 0 := Classical.byContradiction (fun h => c49 ((l1_ge (by omega)).mpr h))
                  refine lv_aload_n hx hb dX4_find_52 rfl (lv_at hl 2 rfl) ?_
                  refine va_get (D := D) (ci := 5) (v := .ref mp_) (C := RX4) (T := TX4) (N := 17) hx hb hts in_X4 hown hK hP 0 rfl rfl 16 (by decide) f_42 (fun _ h9 => h9) rfl dX4_find_53 ?_
                  refine lv_iload_n hx hb dX4_find_56 rfl (lv_at hl 0 rfl) ?_
                  refine lv_iload_n hx hb dX4_find_57 rfl (lv_at hl 1 rfl) ?_
                  refine va_iast hx hb hK hP hD hS 10 0 rfl rfl (by first | exact vp_in_nI (by omega) (by omega) | assumption) dX4_find_58 (fun H locs hP hD hS => ?_)
                  rw [nI_clamp (by omega)] at hP hD
                  have hP : va_P D vwCl ((m_, .inr (5, [.int (nI K), .ref md_, .ref mw_, .ref mv_, .long tk, .int (nI n), .ref mk_, .ref mr_, .long le, .ref mo_, .int (nI px), .ref mf_, .ref mb_, .int (nI fc), .int (nI ft), .ref mx_, .ref mp_])) :: (md_, .inl (cI, 8, .inl (nf dn))) :: (mw_, .inl (cI, 8, .inl (nf wn))) :: (mv_, .inl (cI, 8, .inl (nf vn))) :: (mk_, .inl (cI, 40, .inl (nf kn))) :: (mr_, .inl (cI, 320, .inl (nf (fM M)))) :: (mo_, .inl (cJ, 4, .inr (.inl wo))) :: (mf_, .inl (cI, 256, .inl (nf kd))) :: (mb_, .inl (cI, 400, .inl (nf F))) :: (mx_, .inl (cI, 8, .inl (nf rw))) :: (mp_, .inl (cI, 256, .inl (upd (l1 ((fnS kd (fu (fun _ => 0) lb 256) i).1)) i (nI (fnS kd (fu (fun _ => 0) lb 256) i).2)))) :: R) H := hP
                  have hD : va_D A ((m_, .inr (5, [.int (nI K), .ref md_, .ref mw_, .ref mv_, .long tk, .int (nI n), .ref mk_, .ref mr_, .long le, .ref mo_, .int (nI px), .ref mf_, .ref mb_, .int (nI fc), .int (nI ft), .ref mx_, .ref mp_])) :: (md_, .inl (cI, 8, .inl (nf dn))) :: (mw_, .inl (cI, 8, .inl (nf wn))) :: (mv_, .inl (cI, 8, .inl (nf vn))) :: (mk_, .inl (cI, 40, .inl (nf kn))) :: (mr_, .inl (cI, 320, .inl (nf (fM M)))) :: (mo_, .inl (cJ, 4, .inr (.inl wo))) :: (mf_, .inl (cI, 256, .inl (nf kd))) :: (mb_, .inl (cI, 400, .inl (nf F))) :: (mx_, .inl (cI, 8, .inl (nf rw))) :: (mp_, .inl (cI, 256, .inl (upd (l1 ((fnS kd (fu (fun _ => 0) lb 256) i).1)) i (nI (fnS kd (fu (fun _ => 0) lb 256) i).2)))) :: R) := hD
                  have hW_ : upd (l1 ((fnS kd (fu (fun _ => 0) lb 256) i).1)) i (nI (fnS kd (fu (fun _ => 0) lb 256) i).2) = l1 (un (fnS kd (fu (fun _ => 0) lb 256) i).1 i ((fnS kd (fu (fun _ => 0) lb 256) i).2 + 1)) := by exact l1_upd _ _ _
                  rw [hW_] at hP hD
                  have hP : va_P D vwCl (mwW cI cJ cG R m_ md_ mw_ mv_ mk_ mr_ mo_ mf_ mb_ mx_ mp_ K n dn wn vn tk kn M wo le kd px F fc ft rw (un (fnS kd (fu (fun _ => 0) lb 256) i).1 i ((fnS kd (fu (fun _ => 0) lb 256) i).2 + 1))) H := hP
                  have hD : va_D A (mwW cI cJ cG R m_ md_ mw_ mv_ mk_ mr_ mo_ mf_ mb_ mx_ mp_ K n dn wn vn tk kn M wo le kd px F fc ft rw (un (fnS kd (fu (fun _ => 0) lb 256) i).1 i ((fnS kd (fu (fun _ => 0) lb 256) i).2 + 1))) := hD
                  refine lv_aload_n hx hb dX4_find_59 rfl (lv_at hl 2 rfl) ?_
                  refine lv_iload_n hx hb dX4_find_60 rfl (lv_at hl 1 rfl) ?_
                  refine gc_Vv (As := [.int (nI (fnS kd (fu (fun _ => 0) lb 256) i).2)]) (rest := []) (ci := 5) (q0 := 0) ⟨hx, hb, hml, hown, hts⟩ (c_X4_spread l D cI cJ cG H.size R m_ md_ mw_ mv_ mk_ mr_ mo_ mf_ mb_ mx_ mp_ K n dn wn vn tk kn M wo le kd px F fc ft rw (un (fnS kd (fu (fun _ => 0) lb 256) i).1 i ((fnS kd (fu (fun _ => 0) lb 256) i).2 + 1)) (fnS kd (fu (fun _ => 0) lb 256) i).2 (by omega) (MI_lb hI (un_le hfl (by omega)))) (cwV 1 hts gX4_find_X4_spread rfl rfl rfl (by decide +kernel) ⟨Nat.le_of_ble_eq_true rfl, Nat.le_of_ble_eq_true rfl⟩) rfl rfl rfl hK hP hD hS hA rfl hl.1 rfl (Nat.le_of_ble_eq_true rfl) dX4_find_61 ⟨Nat.le_of_ble_eq_true rfl, Nat.le_of_ble_eq_true rfl⟩ (fun u61 H locs h61 hP hD hS => ?_)
                  subst h61
                  have hP : va_P D vwCl (mwW cI cJ cG R m_ md_ mw_ mv_ mk_ mr_ mo_ mf_ mb_ mx_ mp_ K n dn wn vn tk kn M wo le kd px F fc ft rw (sprd kd (fnS kd (fu (fun _ => 0) lb 256) i).2 257 (un (fnS kd (fu (fun _ => 0) lb 256) i).1 i ((fnS kd (fu (fun _ => 0) lb 256) i).2 + 1)))) H := hP
                  have hD : va_D A (mwW cI cJ cG R m_ md_ mw_ mv_ mk_ mr_ mo_ mf_ mb_ mx_ mp_ K n dn wn vn tk kn M wo le kd px F fc ft rw (sprd kd (fnS kd (fu (fun _ => 0) lb 256) i).2 257 (un (fnS kd (fu (fun _ => 0) lb 256) i).1 i ((fnS kd (fu (fun _ => 0) lb 256) i).2 + 1)))) := hD
                  obtain ⟨x64, ex64⟩ : ∃ y : Int32, y = (nI (fnS kd (fu (fun _ => 0) lb 256) i).2) + 1 := ⟨_, rfl⟩
                  refine lv_iinc (v := x64) (lv' := [(1, .int x64), (2, .int (nI i)), (0, .ref m_)]) hx hb dX4_find_64 hl (k := 1) rfl (by rw [ex64]; rfl) (by decide) rfl (fun ls hl => ?_)
                  obtain rfl : x64 = nI ((fnS kd (fu (fun _ => 0) lb 256) i).2 + 1) := by rw [ex64]; exact nI_1 _
                  have hst := fn_s hk2 hl0
                  have hP : va_P D vwCl (mwW cI cJ cG R m_ md_ mw_ mv_ mk_ mr_ mo_ mf_ mb_ mx_ mp_ K n dn wn vn tk kn M wo le kd px F fc ft rw ((fnS kd (fu (fun _ => 0) lb 256) (i + 1)).1)) H := by rw [hst]; exact hP
                  have hD : va_D A (mwW cI cJ cG R m_ md_ mw_ mv_ mk_ mr_ mo_ mf_ mb_ mx_ mp_ K n dn wn vn tk kn M wo le kd px F fc ft rw ((fnS kd (fu (fun _ => 0) lb 256) (i + 1)).1)) := by rw [hst]; exact hD
                  have hl : lv_has ls 3 [(1, .int (nI (fnS kd (fu (fun _ => 0) lb 256) (i + 1)).2)), (2, .int (nI i)), (0, .ref m_)] := by rw [hst]; exact hl
                  obtain ⟨x67, ex67⟩ : ∃ y : Int32, y = (nI i) + 1 := ⟨_, rfl⟩
                  refine lv_iinc (v := x67) (lv' := [(2, .int x67), (1, .int (nI (fnS kd (fu (fun _ => 0) lb 256) (i + 1)).2)), (0, .ref m_)]) hx hb dX4_find_67 hl (k := 1) rfl (by rw [ex67]; rfl) (by decide) rfl (fun ls hl => ?_)
                  obtain rfl : x67 = nI (i + 1) := by rw [ex67]; exact nI_1 _
                  refine lv_goto (tgt := 26) hx hb dX4_find_70 (by decide) ?_
                  exact ih_26 (i + 1) (by omega) (by omega) H locs ls hP hD hS (lv_sub hl [0, 1, 2] rfl)
        exact L_26 _ 0 (Nat.zero_le _) (Nat.lt_succ_self _) H locs ls hP hD hS (lv_sub hl [0, 1, 2] rfl)
      · skip
        have hi8 := lp_l (n := 256) c6 hi
        refine lv_aload_n hx hb dX4_find_9 rfl (lv_at hl 1 rfl) ?_
        refine va_get (D := D) (ci := 5) (v := .ref mp_) (C := RX4) (T := TX4) (N := 17) hx hb hts in_X4 hown hK hP 0 rfl rfl 16 (by decide) f_42 (fun _ h9 => h9) rfl dX4_find_10 ?_
        refine lv_iload_n hx hb dX4_find_13 rfl (lv_at hl 0 rfl) ?_
        refine lv_iconst (v := -1) hx hb dX4_find_14 (by decide) ?_
        refine va_iast hx hb hK hP hD hS 10 0 rfl rfl (by first | exact vp_in_nI (by omega) (by omega) | assumption) dX4_find_15 (fun H locs hP hD hS => ?_)
        rw [nI_clamp (by omega)] at hP hD
        have hP : va_P D vwCl ((m_, .inr (5, [.int (nI K), .ref md_, .ref mw_, .ref mv_, .long tk, .int (nI n), .ref mk_, .ref mr_, .long le, .ref mo_, .int (nI px), .ref mf_, .ref mb_, .int (nI fc), .int (nI ft), .ref mx_, .ref mp_])) :: (md_, .inl (cI, 8, .inl (nf dn))) :: (mw_, .inl (cI, 8, .inl (nf wn))) :: (mv_, .inl (cI, 8, .inl (nf vn))) :: (mk_, .inl (cI, 40, .inl (nf kn))) :: (mr_, .inl (cI, 320, .inl (nf (fM M)))) :: (mo_, .inl (cJ, 4, .inr (.inl wo))) :: (mf_, .inl (cI, 256, .inl (nf kd))) :: (mb_, .inl (cI, 400, .inl (nf F))) :: (mx_, .inl (cI, 8, .inl (nf rw))) :: (mp_, .inl (cI, 256, .inl (upd (l1 (fu (fun _ => 0) lb i)) i (-1)))) :: R) H := hP
        have hD : va_D A ((m_, .inr (5, [.int (nI K), .ref md_, .ref mw_, .ref mv_, .long tk, .int (nI n), .ref mk_, .ref mr_, .long le, .ref mo_, .int (nI px), .ref mf_, .ref mb_, .int (nI fc), .int (nI ft), .ref mx_, .ref mp_])) :: (md_, .inl (cI, 8, .inl (nf dn))) :: (mw_, .inl (cI, 8, .inl (nf wn))) :: (mv_, .inl (cI, 8, .inl (nf vn))) :: (mk_, .inl (cI, 40, .inl (nf kn))) :: (mr_, .inl (cI, 320, .inl (nf (fM M)))) :: (mo_, .inl (cJ, 4, .inr (.inl wo))) :: (mf_, .inl (cI, 256, .inl (nf kd))) :: (mb_, .inl (cI, 400, .inl (nf F))) :: (mx_, .inl (cI, 8, .inl (nf rw))) :: (mp_, .inl (cI, 256, .inl (upd (l1 (fu (fun _ => 0) lb i)) i (-1)))) :: R) := hD
        have hW_ : upd (l1 (fu (fun _ => 0) lb i)) i (-1) = l1 (fu (fun _ => 0) lb (i + 1)) := by rw [l1_clr]; exact congrArg l1 (fu_s (g := fun _ => 0))
        rw [hW_] at hP hD
        have hP : va_P D vwCl (mwW cI cJ cG R m_ md_ mw_ mv_ mk_ mr_ mo_ mf_ mb_ mx_ mp_ K n dn wn vn tk kn M wo le kd px F fc ft rw (fu (fun _ => 0) lb (i + 1))) H := hP
        have hD : va_D A (mwW cI cJ cG R m_ md_ mw_ mv_ mk_ mr_ mo_ mf_ mb_ mx_ mp_ K n dn wn vn tk kn M wo le kd px F fc ft rw (fu (fun _ => 0) lb (i + 1))) := hD
        obtain ⟨x16, ex16⟩ : ∃ y : Int32, y = (nI i) + 1 := ⟨_, rfl⟩
        refine lv_iinc (v := x16) (lv' := [(1, .int x16), (0, .ref m_)]) hx hb dX4_find_16 hl (k := 0) rfl (by rw [ex16]; rfl) (by decide) rfl (fun ls hl => ?_)
        obtain rfl : x16 = nI (i + 1) := by rw [ex16]; exact nI_1 _
        refine lv_goto (tgt := 2) hx hb dX4_find_19 (by decide) ?_
        exact ih_2 (i + 1) (by omega) (by omega) H locs ls hP hD hS (lv_sub hl [0, 1] rfl)
  exact L_2 _ 0 (Nat.zero_le _) (Nat.lt_succ_self _) H locs ls hP hD hS (lv_sub hl [0, 1] rfl)
abbrev rX4_piece : Room := { frames := 5, cells := 0, slots := 0, locals := 113 }
set_option maxHeartbeats 4000000 in
set_option maxRecDepth 100000 in
theorem c_X4_piece (l : Launch) (D : va_G) (cI cJ cG : ClassId) (sz : Nat) (R : va_W) (m_ md_ mw_ mv_ mk_ mr_ mo_ mf_ mb_ mx_ mp_ : Nat) (K : Nat) (n : Nat) (dn : Nat → Nat) (wn : Nat → Nat) (vn : Nat → Nat) (tk : Int64) (kn : Nat → Nat) (M : Nat → Nat → Nat) (wo : Nat → Int64) (le : Int64) (kd : Nat → Nat) (px : Nat) (F : Nat → Nat) (fc : Nat) (ft : Nat) (rw : Nat → Nat) (lb : Nat → Nat) (x y : Int32) (hI : MI K n dn wn vn kn M kd px F fc rw lb) : Met l yX4_piece wsX4_piece rX4_piece (gP D (tyl cI cJ cG) [.ref m_, .int x, .int y] (mwW cI cJ cG R m_ md_ mw_ mv_ mk_ mr_ mo_ mf_ mb_ mx_ mp_ K n dn wn vn tk kn M wo le kd px F fc ft rw lb) sz) (gQi D (tyl cI cJ cG) (mwW cI cJ cG R m_ md_ mw_ mv_ mk_ mr_ mo_ mf_ mb_ mx_ mp_ K n dn wn vn tk kn M wo le kd px F fc ft rw lb) sz (fun r (_ : Unit) => r = paN (FN kd lb).1 x y) (fun _ => (mwW cI cJ cG R m_ md_ mw_ mv_ mk_ mr_ mo_ mf_ mb_ mx_ mp_ K n dn wn vn tk kn M wo le kd px F fc 0 rw ((FN kd lb).1)))) 0 0 (va_A (mwW cI cJ cG R m_ md_ mw_ mv_ mk_ mr_ mo_ mf_ mb_ mx_ mp_ K n dn wn vn tk kn M wo le kd px F fc ft rw lb) sz) := by
  refine gMet (cc := cX4_piece) (maxL := 4) (ret := (some .int)) (ls0 := [(0, .ref m_), (1, .int x), (2, .int y)]) (by decide) rfl (Nat.le_of_ble_eq_true rfl) rfl ?_
  intro p e s m below meth c hx hb hr hts hown hlocks hml hname A hA hAe hsz Q hQe H locs hP hK hD hS ls hl
  have hown : s.vm.findClass RX4 = some m.cls := hown
  have in_X4 : ∀ w ∈ wsX40, w ∈ wsX4_piece := by decide +kernel
  have f_49 := hts (.fieldLink RX4 49 "SpectrumHeadsModel" "fault" "I") (by decide +kernel)
  have f_42 := hts (.fieldLink RX4 42 "SpectrumHeadsModel" "pieces" "[I") (by decide +kernel)
  obtain ⟨⟨hK1, hK4⟩, hn, ⟨hdn, hwn, hvn⟩, ⟨hkn, hM⟩, ⟨hkd, hpx, hlb⟩, ⟨hF, hfc⟩, hrw⟩ := id hI
  refine lv_aload_n hx hb dX4_piece_0 rfl (lv_at hl 0 rfl) ?_
  refine lv_iconst (v := 0) hx hb dX4_piece_1 (by decide) ?_
  refine va_put (D := D) (ci := 5) (v := .int 0) (ty := .int) (C := RX4) (T := TX4) (N := 17) hx hb hts in_X4 tyX4 tyX4_ok nmX4 hown hK hP hD hS 0 rfl rfl 14 (by decide) f_49 (fun _ h9 => h9) rfl (by decide +kernel) rfl rfl (Nat.le_of_ble_eq_true rfl) dX4_piece_2 (fun H locs hP hD hS => ?_)
  have hP : va_P D vwCl (mwW cI cJ cG R m_ md_ mw_ mv_ mk_ mr_ mo_ mf_ mb_ mx_ mp_ K n dn wn vn tk kn M wo le kd px F fc 0 rw lb) H := hP
  have hD : va_D A (mwW cI cJ cG R m_ md_ mw_ mv_ mk_ mr_ mo_ mf_ mb_ mx_ mp_ K n dn wn vn tk kn M wo le kd px F fc 0 rw lb) := hD
  refine lv_aload_n hx hb dX4_piece_5 rfl (lv_at hl 0 rfl) ?_
  refine gc_Vi (As := []) (rest := []) (ci := 5) (q0 := 0) ⟨hx, hb, hml, hown, hts⟩ (c_X4_find l D cI cJ cG H.size R m_ md_ mw_ mv_ mk_ mr_ mo_ mf_ mb_ mx_ mp_ K n dn wn vn tk kn M wo le kd px F fc 0 rw lb hI) (cwV 0 hts gX4_piece_X4_find rfl rfl rfl (by decide +kernel) ⟨Nat.le_of_ble_eq_true rfl, Nat.le_of_ble_eq_true rfl⟩) rfl rfl rfl hK hP hD hS hA rfl hl.1 rfl (Nat.le_of_ble_eq_true rfl) dX4_piece_6 ⟨Nat.le_of_ble_eq_true rfl, Nat.le_of_ble_eq_true rfl⟩ (fun r6 u6 H locs h6 hP hD hS => ?_)
  obtain ⟨h6a, h6b⟩ := h6
  subst h6a
  subst h6b
  have hP : va_P D vwCl (mwW cI cJ cG R m_ md_ mw_ mv_ mk_ mr_ mo_ mf_ mb_ mx_ mp_ K n dn wn vn tk kn M wo le kd px F fc 0 rw ((FN kd lb).1)) H := hP
  have hD : va_D A (mwW cI cJ cG R m_ md_ mw_ mv_ mk_ mr_ mo_ mf_ mb_ mx_ mp_ K n dn wn vn tk kn M wo le kd px F fc 0 rw ((FN kd lb).1)) := hD
  refine lv_istore_n (lv' := [(3, .int (nI (FN kd lb).2)), (0, .ref m_), (1, .int x), (2, .int y)]) hx hb dX4_piece_9 rfl hl (by decide) rfl (fun ls hl => ?_)
  refine lv_iload_n hx hb dX4_piece_10 rfl (lv_at hl 2 rfl) ?_
  refine lv_iload_n hx hb dX4_piece_11 rfl (lv_at hl 3 rfl) ?_
  refine gc_Si (As := [.int x, .int y]) (rest := []) ⟨hx, hb, hml, hown, hts⟩ (c_X4_isPlace l D cI cJ cG H.size _ x y) (va_cwS 2 hts gX4_piece_X4_isPlace rfl rfl rfl (by decide +kernel) ⟨Nat.le_of_ble_eq_true rfl, Nat.le_of_ble_eq_true rfl⟩) hK hP hD hS hA rfl hl.1 rfl (Nat.le_of_ble_eq_true rfl) dX4_piece_12 ⟨Nat.le_of_ble_eq_true rfl, Nat.le_of_ble_eq_true rfl⟩ (fun r12 u12 H locs h12 hP hD hS => ?_)
  subst h12
  have hP : va_P D vwCl (mwW cI cJ cG R m_ md_ mw_ mv_ mk_ mr_ mo_ mf_ mb_ mx_ mp_ K n dn wn vn tk kn M wo le kd px F fc 0 rw ((FN kd lb).1)) H := hP
  have hD : va_D A (mwW cI cJ cG R m_ md_ mw_ mv_ mk_ mr_ mo_ mf_ mb_ mx_ mp_ K n dn wn vn tk kn M wo le kd px F fc 0 rw ((FN kd lb).1)) := hD
  refine lv_if_eq (tgt := 32) hx hb dX4_piece_15 (by decide) (fun c15 => ?_) (fun c15 => ?_)
  · skip
    have hB15 := bI_0.mp c15
    refine lv_iconst (v := -1) hx hb dX4_piece_32 (by decide) ?_
    subst hQe
    subst hAe
    subst hsz
    exact g_iret hx hb hr hlocks () (by first | (unfold paN; rw [hB15]; rfl) | (unfold paN; rw [if_pos (isPl_t ha hb_), plc_nI ha hb_]; exact ex28)) hP hK hD hS dX4_piece_33
  · skip
    have hpl := bI_n0.mp c15
    obtain ⟨a, b, ha, hb_, rfl, rfl⟩ := isPl hpl
    refine lv_aload_n hx hb dX4_piece_18 rfl (lv_at hl 1 rfl) ?_
    refine va_get (D := D) (ci := 5) (v := .ref mp_) (C := RX4) (T := TX4) (N := 17) hx hb hts in_X4 hown hK hP 0 rfl rfl 16 (by decide) f_42 (fun _ h9 => h9) rfl dX4_piece_19 ?_
    refine lv_bipush (v := 16) hx hb dX4_piece_22 (by decide) ?_
    refine lv_iload_n hx hb dX4_piece_24 rfl (lv_at hl 3 rfl) ?_
    refine lv_imul hx hb dX4_piece_25 ?_
    refine lv_topi (fun x25 ex25 => ?_)
    obtain rfl : x25 = nI (16 * b) := by rw [ex25]; exact pk_mul 16 _
    refine lv_iload_n hx hb dX4_piece_26 rfl (lv_at hl 2 rfl) ?_
    refine lv_iadd hx hb dX4_piece_27 ?_
    refine lv_topi (fun x27 ex27 => ?_)
    obtain rfl : x27 = nI (16 * b + a) := by rw [ex27]; exact nI_add _ _
    refine va_iald hx hb hK hP (10) 0 rfl rfl (by first | exact vp_in_nI (by omega) (by omega) | assumption) dX4_piece_28 ?_
    refine lv_topi (fun x28 ex28 => ?_)
    rw [nI_clamp (by omega)] at ex28
    refine lv_goto (tgt := 33) hx hb dX4_piece_29 (by decide) ?_
    subst hQe
    subst hAe
    subst hsz
    exact g_iret hx hb hr hlocks () (by first | (unfold paN; rw [hB15]; rfl) | (unfold paN; rw [if_pos (isPl_t ha hb_), plc_nI ha hb_]; exact ex28)) hP hK hD hS dX4_piece_33
abbrev rX4_pixelsOf : Room := { frames := 0, cells := 0, slots := 0, locals := 0 }
set_option maxHeartbeats 4000000 in
set_option maxRecDepth 100000 in
theorem c_X4_pixelsOf (l : Launch) (D : va_G) (cI cJ cG : ClassId) (sz : Nat) (R : va_W) (m_ md_ mw_ mv_ mk_ mr_ mo_ mf_ mb_ mx_ mp_ : Nat) (K : Nat) (n : Nat) (dn : Nat → Nat) (wn : Nat → Nat) (vn : Nat → Nat) (tk : Int64) (kn : Nat → Nat) (M : Nat → Nat → Nat) (wo : Nat → Int64) (le : Int64) (kd : Nat → Nat) (px : Nat) (F : Nat → Nat) (fc : Nat) (ft : Nat) (rw : Nat → Nat) (lb : Nat → Nat) (q k : Nat) (hq : q ≤ 256) (hk : k ≤ 256) (hI : MI K n dn wn vn kn M kd px F fc rw lb) : Met l yX4_pixelsOf wsX4_pixelsOf rX4_pixelsOf (gP D (tyl cI cJ cG) [.ref m_, .int (nI q), .int (nI k)] (mwW cI cJ cG R m_ md_ mw_ mv_ mk_ mr_ mo_ mf_ mb_ mx_ mp_ K n dn wn vn tk kn M wo le kd px F fc ft rw lb) sz) (gQi D (tyl cI cJ cG) (mwW cI cJ cG R m_ md_ mw_ mv_ mk_ mr_ mo_ mf_ mb_ mx_ mp_ K n dn wn vn tk kn M wo le kd px F fc ft rw lb) sz (fun r (_ : Unit) => r = nI (cnt (inP lb kd q k) 256)) (fun _ => (mwW cI cJ cG R m_ md_ mw_ mv_ mk_ mr_ mo_ mf_ mb_ mx_ mp_ K n dn wn vn tk kn M wo le kd px F fc ft rw lb))) 0 0 (va_A (mwW cI cJ cG R m_ md_ mw_ mv_ mk_ mr_ mo_ mf_ mb_ mx_ mp_ K n dn wn vn tk kn M wo le kd px F fc ft rw lb) sz) := by
  refine gMet (cc := cX4_pixelsOf) (maxL := 5) (ret := (some .int)) (ls0 := [(0, .ref m_), (1, .int (nI q)), (2, .int (nI k))]) (by decide) rfl (Nat.le_of_ble_eq_true rfl) rfl ?_
  intro p e s m below meth c hx hb hr hts hown hlocks hml hname A hA hAe hsz Q hQe H locs hP hK hD hS ls hl
  have hown : s.vm.findClass RX4 = some m.cls := hown
  have in_X4 : ∀ w ∈ wsX40, w ∈ wsX4_pixelsOf := by decide +kernel
  have f_42 := hts (.fieldLink RX4 42 "SpectrumHeadsModel" "pieces" "[I") (by decide +kernel)
  have f_33 := hts (.fieldLink RX4 33 "SpectrumHeadsModel" "field" "[I") (by decide +kernel)
  obtain ⟨⟨hK1, hK4⟩, hn, ⟨hdn, hwn, hvn⟩, ⟨hkn, hM⟩, ⟨hkd, hpx, hlb⟩, ⟨hF, hfc⟩, hrw⟩ := id hI
  refine lv_iconst (v := 0) hx hb dX4_pixelsOf_0 (by decide) ?_
  refine lv_istore_n (lv' := [(3, .int 0), (0, .ref m_), (1, .int (nI q)), (2, .int (nI k))]) hx hb dX4_pixelsOf_1 rfl hl (by decide) rfl (fun ls hl => ?_)
  refine lv_iconst (v := 0) hx hb dX4_pixelsOf_2 (by decide) ?_
  refine lv_istore (lv' := [(4, .int 0), (3, .int 0), (0, .ref m_), (1, .int (nI q)), (2, .int (nI k))]) hx hb dX4_pixelsOf_3 hl (by decide) rfl (fun ls hl => ?_)
  have L_5 : ∀ (n_5 : Nat) (i : Nat) (hi : i ≤ 256), 256 - i < n_5 → ∀ (H : Heap) (locs : List Loc) (ls : Array Slot), va_P D vwCl (mwW cI cJ cG R m_ md_ mw_ mv_ mk_ mr_ mo_ mf_ mb_ mx_ mp_ K n dn wn vn tk kn M wo le kd px F fc ft rw lb) H → va_D A (mwW cI cJ cG R m_ md_ mw_ mv_ mk_ mr_ mo_ mf_ mb_ mx_ mp_ K n dn wn vn tk kn M wo le kd px F fc ft rw lb) → va_S A s.heap H locs → lv_has ls 5 [(4, .int (nI i)), (3, .int (nI (cnt (inP lb kd q k) i))), (0, .ref m_), (1, .int (nI q)), (2, .int (nI k))] → W p l e (headSpec wsX4_pixelsOf rX4_pixelsOf).room s m ([.ref m_, .int (nI q), .int (nI k)] : List Value).toArray below meth c H locs 0 0 Q (F0 m 5 ls []) := by
    intro n_5
    induction n_5 with
    | zero => intro i hi hn_; exact absurd hn_ (Nat.not_lt_zero _)
    | succ n_5 ih_5 =>
      intro i hi hn_5 H locs ls hP hD hS hl
      refine lv_iload hx hb dX4_pixelsOf_5 (lv_at hl 0 rfl) ?_
      refine lv_sipush (v := 256) hx hb dX4_pixelsOf_7 (by decide) ?_
      refine lv_icmp_ge (tgt := 51) hx hb dX4_pixelsOf_10 (by decide) (fun c10 => ?_) (fun c10 => ?_)
      · skip
        have hE10 := lp_e (n := 256) c10 hi
        subst hE10
        refine lv_iload_n hx hb dX4_pixelsOf_51 rfl (lv_at hl 1 rfl) ?_
        subst hQe
        subst hAe
        subst hsz
        exact g_iret hx hb hr hlocks () rfl hP hK hD hS dX4_pixelsOf_52
      · skip
        have hi8 := lp_l (n := 256) c10 hi
        have hk6 := hkd i
        have hl6 := hlb i
        refine lv_iload_n hx hb dX4_pixelsOf_13 rfl (lv_at hl 1 rfl) ?_
        refine lv_aload_n hx hb dX4_pixelsOf_14 rfl (lv_at hl 2 rfl) ?_
        refine va_get (D := D) (ci := 5) (v := .ref mp_) (C := RX4) (T := TX4) (N := 17) hx hb hts in_X4 hown hK hP 0 rfl rfl 16 (by decide) f_42 (fun _ h9 => h9) rfl dX4_pixelsOf_15 ?_
        refine lv_iload hx hb dX4_pixelsOf_18 (lv_at hl 0 rfl) ?_
        refine va_iald hx hb hK hP (10) 0 rfl rfl (by first | exact vp_in_nI (by omega) (by omega) | assumption) dX4_pixelsOf_20 ?_
        refine lv_topi (fun x20 ex20 => ?_)
        rw [nI_clamp (by omega)] at ex20
        obtain rfl : x20 = nI (lb i) - 1 := by exact ex20
        refine lv_iload_n hx hb dX4_pixelsOf_21 rfl (lv_at hl 3 rfl) ?_
        refine lv_icmp_ne (tgt := 42) hx hb dX4_pixelsOf_22 (by decide) (fun c22 => ?_) (fun c22 => ?_)
        · skip
          have hno : (inP lb kd q k) i = false := by simp [inP, mt (l1_eq (b := q) (by omega) (by omega)).mpr c22]
          refine lv_iconst (v := 0) hx hb dX4_pixelsOf_42 (by decide) ?_
          refine lv_iadd hx hb dX4_pixelsOf_43 ?_
          refine lv_topi (fun x43 ex43 => ?_)
          obtain rfl : x43 = nI (cnt (inP lb kd q k) (i + 1)) := by rw [ex43]; first | (rw [cnt_s hyes]; exact nI_1 _) | (rw [← cnt_n hno]; exact nI_add _ 0)
          refine lv_istore_n (lv' := [(3, .int (nI (cnt (inP lb kd q k) (i + 1)))), (4, .int (nI i)), (0, .ref m_), (1, .int (nI q)), (2, .int (nI k))]) hx hb dX4_pixelsOf_44 rfl hl (by decide) rfl (fun ls hl => ?_)
          obtain ⟨x45, ex45⟩ : ∃ y : Int32, y = (nI i) + 1 := ⟨_, rfl⟩
          refine lv_iinc (v := x45) (lv' := [(4, .int x45), (3, .int (nI (cnt (inP lb kd q k) (i + 1)))), (0, .ref m_), (1, .int (nI q)), (2, .int (nI k))]) hx hb dX4_pixelsOf_45 hl (k := 1) rfl (by rw [ex45]; rfl) (by decide) rfl (fun ls hl => ?_)
          obtain rfl : x45 = nI (i + 1) := by rw [ex45]; exact nI_1 _
          refine lv_goto (tgt := 5) hx hb dX4_pixelsOf_48 (by decide) ?_
          exact ih_5 (i + 1) (by omega) (by omega) H locs ls hP hD hS (lv_sub hl [0, 1, 2, 3, 4] rfl)
        · skip
          have h1 : lb i = q + 1 := (l1_eq (by omega) (by omega)).mp c22
          refine lv_aload_n hx hb dX4_pixelsOf_25 rfl (lv_at hl 2 rfl) ?_
          refine va_get (D := D) (ci := 5) (v := .ref mf_) (C := RX4) (T := TX4) (N := 17) hx hb hts in_X4 hown hK hP 0 rfl rfl 11 (by decide) f_33 (fun _ h9 => h9) rfl dX4_pixelsOf_26 ?_
          refine lv_iload hx hb dX4_pixelsOf_29 (lv_at hl 0 rfl) ?_
          refine va_iald hx hb hK hP (7) 0 rfl rfl (by first | exact vp_in_nI (by omega) (by omega) | assumption) dX4_pixelsOf_31 ?_
          refine lv_topi (fun x31 ex31 => ?_)
          rw [nI_clamp (by omega)] at ex31
          obtain rfl : x31 = nI (kd i) := by exact ex31
          refine lv_iload_n hx hb dX4_pixelsOf_32 rfl (lv_at hl 4 rfl) ?_
          refine lv_iconst (v := 2) hx hb dX4_pixelsOf_33 (by decide) ?_
          refine lv_iadd hx hb dX4_pixelsOf_34 ?_
          refine lv_topi (fun x34 ex34 => ?_)
          obtain rfl : x34 = nI (k + 2) := by rw [ex34]; exact two_k
          refine lv_icmp_ne (tgt := 42) hx hb dX4_pixelsOf_35 (by decide) (fun c35 => ?_) (fun c35 => ?_)
          · skip
            have hno : (inP lb kd q k) i = false := by simp [inP, mt (fun h => congrArg nI h) c35]
            refine lv_iconst (v := 0) hx hb dX4_pixelsOf_42 (by decide) ?_
            refine lv_iadd hx hb dX4_pixelsOf_43 ?_
            refine lv_topi (fun x43 ex43 => ?_)
            obtain rfl : x43 = nI (cnt (inP lb kd q k) (i + 1)) := by rw [ex43]; first | (rw [cnt_s hyes]; exact nI_1 _) | (rw [← cnt_n hno]; exact nI_add _ 0)
            refine lv_istore_n (lv' := [(3, .int (nI (cnt (inP lb kd q k) (i + 1)))), (4, .int (nI i)), (0, .ref m_), (1, .int (nI q)), (2, .int (nI k))]) hx hb dX4_pixelsOf_44 rfl hl (by decide) rfl (fun ls hl => ?_)
            obtain ⟨x45, ex45⟩ : ∃ y : Int32, y = (nI i) + 1 := ⟨_, rfl⟩
            refine lv_iinc (v := x45) (lv' := [(4, .int x45), (3, .int (nI (cnt (inP lb kd q k) (i + 1)))), (0, .ref m_), (1, .int (nI q)), (2, .int (nI k))]) hx hb dX4_pixelsOf_45 hl (k := 1) rfl (by rw [ex45]; rfl) (by decide) rfl (fun ls hl => ?_)
            obtain rfl : x45 = nI (i + 1) := by rw [ex45]; exact nI_1 _
            refine lv_goto (tgt := 5) hx hb dX4_pixelsOf_48 (by decide) ?_
            exact ih_5 (i + 1) (by omega) (by omega) H locs ls hP hD hS (lv_sub hl [0, 1, 2, 3, 4] rfl)
          · skip
            have hyes : (inP lb kd q k) i = true := by simp [inP, h1, (nI_eq (by omega) (by omega)).mp c35]
            refine lv_iconst (v := 1) hx hb dX4_pixelsOf_38 (by decide) ?_
            refine lv_goto (tgt := 43) hx hb dX4_pixelsOf_39 (by decide) ?_
            refine lv_iadd hx hb dX4_pixelsOf_43 ?_
            refine lv_topi (fun x43 ex43 => ?_)
            obtain rfl : x43 = nI (cnt (inP lb kd q k) (i + 1)) := by rw [ex43]; first | (rw [cnt_s hyes]; exact nI_1 _) | (rw [← cnt_n hno]; exact nI_add _ 0)
            refine lv_istore_n (lv' := [(3, .int (nI (cnt (inP lb kd q k) (i + 1)))), (4, .int (nI i)), (0, .ref m_), (1, .int (nI q)), (2, .int (nI k))]) hx hb dX4_pixelsOf_44 rfl hl (by decide) rfl (fun ls hl => ?_)
            obtain ⟨x45, ex45⟩ : ∃ y : Int32, y = (nI i) + 1 := ⟨_, rfl⟩
            refine lv_iinc (v := x45) (lv' := [(4, .int x45), (3, .int (nI (cnt (inP lb kd q k) (i + 1)))), (0, .ref m_), (1, .int (nI q)), (2, .int (nI k))]) hx hb dX4_pixelsOf_45 hl (k := 1) rfl (by rw [ex45]; rfl) (by decide) rfl (fun ls hl => ?_)
            obtain rfl : x45 = nI (i + 1) := by rw [ex45]; exact nI_1 _
            refine lv_goto (tgt := 5) hx hb dX4_pixelsOf_48 (by decide) ?_
            exact ih_5 (i + 1) (by omega) (by omega) H locs ls hP hD hS (lv_sub hl [0, 1, 2, 3, 4] rfl)
  exact L_5 _ 0 (Nat.zero_le _) (Nat.lt_succ_self _) H locs ls hP hD hS (lv_sub hl [0, 1, 2, 3, 4] rfl)
abbrev rX4_pieceKind : Room := { frames := 5, cells := 0, slots := 0, locals := 113 }
set_option maxHeartbeats 4000000 in
set_option maxRecDepth 100000 in
theorem c_X4_pieceKind (l : Launch) (D : va_G) (cI cJ cG : ClassId) (sz : Nat) (R : va_W) (m_ md_ mw_ mv_ mk_ mr_ mo_ mf_ mb_ mx_ mp_ : Nat) (K : Nat) (n : Nat) (dn : Nat → Nat) (wn : Nat → Nat) (vn : Nat → Nat) (tk : Int64) (kn : Nat → Nat) (M : Nat → Nat → Nat) (wo : Nat → Int64) (le : Int64) (kd : Nat → Nat) (px : Nat) (F : Nat → Nat) (fc : Nat) (ft : Nat) (rw : Nat → Nat) (lb : Nat → Nat) (x : Int32) (hI : MI K n dn wn vn kn M kd px F fc rw lb) : Met l yX4_pieceKind wsX4_pieceKind rX4_pieceKind (gP D (tyl cI cJ cG) [.ref m_, .int x] (mwW cI cJ cG R m_ md_ mw_ mv_ mk_ mr_ mo_ mf_ mb_ mx_ mp_ K n dn wn vn tk kn M wo le kd px F fc ft rw lb) sz) (gQi D (tyl cI cJ cG) (mwW cI cJ cG R m_ md_ mw_ mv_ mk_ mr_ mo_ mf_ mb_ mx_ mp_ K n dn wn vn tk kn M wo le kd px F fc ft rw lb) sz (fun r (u : Nat → Nat) => (r = if inB x (FN kd lb).2 = true then nI (grN (fun k => cnt (inP (FN kd lb).1 kd x.toNatClampNeg k) 256) wo K) else -1) ∧ (∀ p, u p ≤ 256)) (fun u => (mwW cI cJ cG R m_ md_ mw_ mv_ mk_ mr_ mo_ mf_ mb_ mx_ mp_ K n dn wn vn tk kn M wo le kd px F fc 0 rw u))) 0 0 (va_A (mwW cI cJ cG R m_ md_ mw_ mv_ mk_ mr_ mo_ mf_ mb_ mx_ mp_ K n dn wn vn tk kn M wo le kd px F fc ft rw lb) sz) := by
  refine gMet (cc := cX4_pieceKind) (maxL := 6) (ret := (some .int)) (ls0 := [(0, .ref m_), (1, .int x)]) (by decide) rfl (Nat.le_of_ble_eq_true rfl) rfl ?_
  intro p e s m below meth c hx hb hr hts hown hlocks hml hname A hA hAe hsz Q hQe H locs hP hK hD hS ls hl
  have hown : s.vm.findClass RX4 = some m.cls := hown
  have in_X4 : ∀ w ∈ wsX40, w ∈ wsX4_pieceKind := by decide +kernel
  have f_49 := hts (.fieldLink RX4 49 "SpectrumHeadsModel" "fault" "I") (by decide +kernel)
  have f_45 := hts (.fieldLink RX4 45 "SpectrumHeadsModel" "kinds" "I") (by decide +kernel)
  have f_29 := hts (.fieldLink RX4 29 "SpectrumHeadsModel" "worths" "[J") (by decide +kernel)
  obtain ⟨⟨hK1, hK4⟩, hn, ⟨hdn, hwn, hvn⟩, ⟨hkn, hM⟩, ⟨hkd, hpx, hlb⟩, ⟨hF, hfc⟩, hrw⟩ := id hI
  have hfcnt := FN_cnt kd lb
  refine lv_aload_n hx hb dX4_pieceKind_0 rfl (lv_at hl 0 rfl) ?_
  refine lv_iconst (v := 0) hx hb dX4_pieceKind_1 (by decide) ?_
  refine va_put (D := D) (ci := 5) (v := .int 0) (ty := .int) (C := RX4) (T := TX4) (N := 17) hx hb hts in_X4 tyX4 tyX4_ok nmX4 hown hK hP hD hS 0 rfl rfl 14 (by decide) f_49 (fun _ h9 => h9) rfl (by decide +kernel) rfl rfl (Nat.le_of_ble_eq_true rfl) dX4_pieceKind_2 (fun H locs hP hD hS => ?_)
  have hP : va_P D vwCl (mwW cI cJ cG R m_ md_ mw_ mv_ mk_ mr_ mo_ mf_ mb_ mx_ mp_ K n dn wn vn tk kn M wo le kd px F fc 0 rw lb) H := hP
  have hD : va_D A (mwW cI cJ cG R m_ md_ mw_ mv_ mk_ mr_ mo_ mf_ mb_ mx_ mp_ K n dn wn vn tk kn M wo le kd px F fc 0 rw lb) := hD
  refine lv_iload_n hx hb dX4_pieceKind_5 rfl (lv_at hl 1 rfl) ?_
  refine lv_if_lt (tgt := 17) hx hb dX4_pieceKind_6 (by decide) (fun c6 => ?_) (fun c6 => ?_)
  · skip
    have hB := inB_f1 (n := (FN kd lb).2) c6
    refine lv_iconst (v := -1) hx hb dX4_pieceKind_17 (by decide) ?_
    subst hQe
    subst hAe
    subst hsz
    exact g_iret hx hb hr hlocks lb ⟨by rw [hB]; rfl, hlb⟩ hP hK hD hS dX4_pieceKind_18
  · skip
    refine lv_iload_n hx hb dX4_pieceKind_9 rfl (lv_at hl 1 rfl) ?_
    refine lv_aload_n hx hb dX4_pieceKind_10 rfl (lv_at hl 0 rfl) ?_
    refine gc_Vi (As := []) (rest := [.int x]) (ci := 5) (q0 := 0) ⟨hx, hb, hml, hown, hts⟩ (c_X4_find l D cI cJ cG H.size R m_ md_ mw_ mv_ mk_ mr_ mo_ mf_ mb_ mx_ mp_ K n dn wn vn tk kn M wo le kd px F fc 0 rw lb hI) (cwV 0 hts gX4_pieceKind_X4_find rfl rfl rfl (by decide +kernel) ⟨Nat.le_of_ble_eq_true rfl, Nat.le_of_ble_eq_true rfl⟩) rfl rfl rfl hK hP hD hS hA rfl hl.1 rfl (Nat.le_of_ble_eq_true rfl) dX4_pieceKind_11 ⟨Nat.le_of_ble_eq_true rfl, Nat.le_of_ble_eq_true rfl⟩ (fun r11 u11 H locs h11 hP hD hS => ?_)
    obtain ⟨h11a, h11b⟩ := h11
    subst h11a
    subst h11b
    have hP : va_P D vwCl (mwW cI cJ cG R m_ md_ mw_ mv_ mk_ mr_ mo_ mf_ mb_ mx_ mp_ K n dn wn vn tk kn M wo le kd px F fc 0 rw ((FN kd lb).1)) H := hP
    have hD : va_D A (mwW cI cJ cG R m_ md_ mw_ mv_ mk_ mr_ mo_ mf_ mb_ mx_ mp_ K n dn wn vn tk kn M wo le kd px F fc 0 rw ((FN kd lb).1)) := hD
    refine lv_icmp_lt (tgt := 19) hx hb dX4_pieceKind_14 (by decide) (fun c14 => ?_) (fun c14 => ?_)
    · skip
      have hB : inB x (FN kd lb).2 = true := inB_t (by omega) c6 (fun h => lt_nle c14 h)
      obtain ⟨a, ha_, rfl⟩ := inB_of hB (by omega)
      refine lv_iconst (v := 0) hx hb dX4_pieceKind_19 (by decide) ?_
      refine lv_istore_n (lv' := [(2, .int 0), (0, .ref m_), (1, .int (nI a))]) hx hb dX4_pieceKind_20 rfl hl (by decide) rfl (fun ls hl => ?_)
      refine lv_iconst (v := 1) hx hb dX4_pieceKind_21 (by decide) ?_
      refine lv_istore_n (lv' := [(3, .int 1), (2, .int 0), (0, .ref m_), (1, .int (nI a))]) hx hb dX4_pieceKind_22 rfl hl (by decide) rfl (fun ls hl => ?_)
      have L_23 : ∀ (n_23 : Nat) (k : Nat) (hk : k ≤ K) (hk1 : 1 ≤ k), K - k < n_23 → ∀ (H : Heap) (locs : List Loc) (ls : Array Slot), va_P D vwCl (mwW cI cJ cG R m_ md_ mw_ mv_ mk_ mr_ mo_ mf_ mb_ mx_ mp_ K n dn wn vn tk kn M wo le kd px F fc 0 rw ((FN kd lb).1)) H → va_D A (mwW cI cJ cG R m_ md_ mw_ mv_ mk_ mr_ mo_ mf_ mb_ mx_ mp_ K n dn wn vn tk kn M wo le kd px F fc 0 rw ((FN kd lb).1)) → va_S A s.heap H locs → lv_has ls 6 [(3, .int (nI k)), (2, .int (nI (grN (fun k => cnt (inP (FN kd lb).1 kd a k) 256) wo k))), (0, .ref m_), (1, .int (nI a))] → W p l e (headSpec wsX4_pieceKind rX4_pieceKind).room s m ([.ref m_, .int (nI a)] : List Value).toArray below meth c H locs 0 0 Q (F0 m 23 ls []) := by
        intro n_23
        induction n_23 with
        | zero => intro k hk hk1 hn_; exact absurd hn_ (Nat.not_lt_zero _)
        | succ n_23 ih_23 =>
          intro k hk hk1 hn_23 H locs ls hP hD hS hl
          refine lv_iload_n hx hb dX4_pieceKind_23 rfl (lv_at hl 0 rfl) ?_
          refine lv_aload_n hx hb dX4_pieceKind_24 rfl (lv_at hl 2 rfl) ?_
          refine va_get (D := D) (ci := 5) (v := .int (nI K)) (C := RX4) (T := TX4) (N := 17) hx hb hts in_X4 hown hK hP 0 rfl rfl 0 (by decide) f_45 (fun _ h9 => h9) rfl dX4_pieceKind_25 ?_
          refine lv_icmp_ge (tgt := 89) hx hb dX4_pieceKind_28 (by decide) (fun c28 => ?_) (fun c28 => ?_)
          · skip
            have hE28 := lp_e (n := K) c28 hk
            subst hE28
            refine lv_iload_n hx hb dX4_pieceKind_89 rfl (lv_at hl 1 rfl) ?_
            subst hQe
            subst hAe
            subst hsz
            exact g_iret hx hb hr hlocks (FN kd lb).1 ⟨by rw [hB, nI_clamp (by omega)]; rfl, FN_le hlb⟩ hP hK hD hS dX4_pieceKind_90
          · skip
            have hk8 := lp_l (n := K) c28 hk
            have hgl : (grN (fun k => cnt (inP (FN kd lb).1 kd a k) 256) wo k) < k := grN_lt k hk1
            have hs1 := cnt_le (inP (FN kd lb).1 kd a k) 256
            have hs2 := cnt_le (inP (FN kd lb).1 kd a (grN (fun k => cnt (inP (FN kd lb).1 kd a k) 256) wo k)) 256
            refine lv_aload_n hx hb dX4_pieceKind_31 rfl (lv_at hl 2 rfl) ?_
            refine lv_iload_n hx hb dX4_pieceKind_32 rfl (lv_at hl 3 rfl) ?_
            refine lv_iload_n hx hb dX4_pieceKind_33 rfl (lv_at hl 0 rfl) ?_
            refine gc_Vi (As := [.int (nI a), .int (nI k)]) (rest := []) (ci := 5) (q0 := 0) ⟨hx, hb, hml, hown, hts⟩ (c_X4_pixelsOf l D cI cJ cG H.size R m_ md_ mw_ mv_ mk_ mr_ mo_ mf_ mb_ mx_ mp_ K n dn wn vn tk kn M wo le kd px F fc 0 rw ((FN kd lb).1) a k (by omega) (by omega) (MI_lb hI (FN_le hlb))) (cwV 2 hts gX4_pieceKind_X4_pixelsOf rfl rfl rfl (by decide +kernel) ⟨Nat.le_of_ble_eq_true rfl, Nat.le_of_ble_eq_true rfl⟩) rfl rfl rfl hK hP hD hS hA rfl hl.1 rfl (Nat.le_of_ble_eq_true rfl) dX4_pieceKind_34 ⟨Nat.le_of_ble_eq_true rfl, Nat.le_of_ble_eq_true rfl⟩ (fun r34 u34 H locs h34 hP hD hS => ?_)
            subst h34
            have hP : va_P D vwCl (mwW cI cJ cG R m_ md_ mw_ mv_ mk_ mr_ mo_ mf_ mb_ mx_ mp_ K n dn wn vn tk kn M wo le kd px F fc 0 rw ((FN kd lb).1)) H := hP
            have hD : va_D A (mwW cI cJ cG R m_ md_ mw_ mv_ mk_ mr_ mo_ mf_ mb_ mx_ mp_ K n dn wn vn tk kn M wo le kd px F fc 0 rw ((FN kd lb).1)) := hD
            refine lv_istore (lv' := [(4, .int (nI (cnt (inP (FN kd lb).1 kd a k) 256))), (3, .int (nI k)), (2, .int (nI (grN (fun k => cnt (inP (FN kd lb).1 kd a k) 256) wo k))), (0, .ref m_), (1, .int (nI a))]) hx hb dX4_pieceKind_37 hl (by decide) rfl (fun ls hl => ?_)
            refine lv_aload_n hx hb dX4_pieceKind_39 rfl (lv_at hl 3 rfl) ?_
            refine lv_iload_n hx hb dX4_pieceKind_40 rfl (lv_at hl 4 rfl) ?_
            refine lv_iload_n hx hb dX4_pieceKind_41 rfl (lv_at hl 2 rfl) ?_
            refine gc_Vi (As := [.int (nI a), .int (nI (grN (fun k => cnt (inP (FN kd lb).1 kd a k) 256) wo k))]) (rest := []) (ci := 5) (q0 := 0) ⟨hx, hb, hml, hown, hts⟩ (c_X4_pixelsOf l D cI cJ cG H.size R m_ md_ mw_ mv_ mk_ mr_ mo_ mf_ mb_ mx_ mp_ K n dn wn vn tk kn M wo le kd px F fc 0 rw ((FN kd lb).1) a (grN (fun k => cnt (inP (FN kd lb).1 kd a k) 256) wo k) (by omega) (by omega) (MI_lb hI (FN_le hlb))) (cwV 2 hts gX4_pieceKind_X4_pixelsOf rfl rfl rfl (by decide +kernel) ⟨Nat.le_of_ble_eq_true rfl, Nat.le_of_ble_eq_true rfl⟩) rfl rfl rfl hK hP hD hS hA rfl hl.1 rfl (Nat.le_of_ble_eq_true rfl) dX4_pieceKind_42 ⟨Nat.le_of_ble_eq_true rfl, Nat.le_of_ble_eq_true rfl⟩ (fun r42 u42 H locs h42 hP hD hS => ?_)
            subst h42
            have hP : va_P D vwCl (mwW cI cJ cG R m_ md_ mw_ mv_ mk_ mr_ mo_ mf_ mb_ mx_ mp_ K n dn wn vn tk kn M wo le kd px F fc 0 rw ((FN kd lb).1)) H := hP
            have hD : va_D A (mwW cI cJ cG R m_ md_ mw_ mv_ mk_ mr_ mo_ mf_ mb_ mx_ mp_ K n dn wn vn tk kn M wo le kd px F fc 0 rw ((FN kd lb).1)) := hD
            refine lv_istore (lv' := [(5, .int (nI (cnt (inP (FN kd lb).1 kd a (grN (fun k => cnt (inP (FN kd lb).1 kd a k) 256) wo k)) 256))), (4, .int (nI (cnt (inP (FN kd lb).1 kd a k) 256))), (3, .int (nI k)), (2, .int (nI (grN (fun k => cnt (inP (FN kd lb).1 kd a k) 256) wo k))), (0, .ref m_), (1, .int (nI a))]) hx hb dX4_pieceKind_45 hl (by decide) rfl (fun ls hl => ?_)
            refine lv_iload hx hb dX4_pieceKind_47 (lv_at hl 1 rfl) ?_
            refine lv_iload hx hb dX4_pieceKind_49 (lv_at hl 0 rfl) ?_
            refine lv_icmp_gt (tgt := 77) hx hb dX4_pieceKind_51 (by decide) (fun c51 => ?_) (fun c51 => ?_)
            · skip
              have hyes : (cnt (inP (FN kd lb).1 kd a (grN (fun k => cnt (inP (FN kd lb).1 kd a k) 256) wo k)) 256) < (cnt (inP (FN kd lb).1 kd a k) 256) ∨ ((cnt (inP (FN kd lb).1 kd a k) 256) = (cnt (inP (FN kd lb).1 kd a (grN (fun k => cnt (inP (FN kd lb).1 kd a k) 256) wo k)) 256) ∧ wo (grN (fun k => cnt (inP (FN kd lb).1 kd a k) 256) wo k) < wo k) := Or.inl ((nI_ltI (by omega) (by omega)).mp c51)
              refine lv_iload_n hx hb dX4_pieceKind_77 rfl (lv_at hl 2 rfl) ?_
              refine lv_goto (tgt := 82) hx hb dX4_pieceKind_78 (by decide) ?_
              refine lv_istore_n (lv' := [(2, .int (nI k)), (5, .int (nI (cnt (inP (FN kd lb).1 kd a (grN (fun k => cnt (inP (FN kd lb).1 kd a k) 256) wo k)) 256))), (4, .int (nI (cnt (inP (FN kd lb).1 kd a k) 256))), (3, .int (nI k)), (0, .ref m_), (1, .int (nI a))]) hx hb dX4_pieceKind_82 rfl hl (by decide) rfl (fun ls hl => ?_)
              have hl := gr_loc hl (grN_t (sc := (fun k => cnt (inP (FN kd lb).1 kd a k) 256)) (wo := wo) hk1 hyes)
              obtain ⟨x83, ex83⟩ : ∃ y : Int32, y = (nI k) + 1 := ⟨_, rfl⟩
              refine lv_iinc (v := x83) (lv' := [(3, .int x83), (2, .int (nI (grN (fun k => cnt (inP (FN kd lb).1 kd a k) 256) wo (k + 1)))), (5, .int (nI (cnt (inP (FN kd lb).1 kd a (grN (fun k => cnt (inP (FN kd lb).1 kd a k) 256) wo k)) 256))), (4, .int (nI (cnt (inP (FN kd lb).1 kd a k) 256))), (0, .ref m_), (1, .int (nI a))]) hx hb dX4_pieceKind_83 hl (k := 3) rfl (by rw [ex83]; rfl) (by decide) rfl (fun ls hl => ?_)
              obtain rfl : x83 = nI (k + 1) := by rw [ex83]; exact nI_1 _
              refine lv_goto (tgt := 23) hx hb dX4_pieceKind_86 (by decide) ?_
              exact ih_23 (k + 1) (by omega) (by omega) (by omega) H locs ls hP hD hS (lv_sub hl [0, 1, 4, 5] rfl)
            · skip
              have hgt : ¬ (cnt (inP (FN kd lb).1 kd a (grN (fun k => cnt (inP (FN kd lb).1 kd a k) 256) wo k)) 256) < (cnt (inP (FN kd lb).1 kd a k) 256) := fun h => c51 ((nI_ltI (by omega) (by omega)).mpr h)
              refine lv_iload hx hb dX4_pieceKind_54 (lv_at hl 1 rfl) ?_
              refine lv_iload hx hb dX4_pieceKind_56 (lv_at hl 0 rfl) ?_
              refine lv_icmp_ne (tgt := 81) hx hb dX4_pieceKind_58 (by decide) (fun c58 => ?_) (fun c58 => ?_)
              · skip
                have hno : ¬ ((cnt (inP (FN kd lb).1 kd a (grN (fun k => cnt (inP (FN kd lb).1 kd a k) 256) wo k)) 256) < (cnt (inP (FN kd lb).1 kd a k) 256) ∨ ((cnt (inP (FN kd lb).1 kd a k) 256) = (cnt (inP (FN kd lb).1 kd a (grN (fun k => cnt (inP (FN kd lb).1 kd a k) 256) wo k)) 256) ∧ wo (grN (fun k => cnt (inP (FN kd lb).1 kd a k) 256) wo k) < wo k)) := fun h => h.elim hgt (fun h2 => c58 (by rw [h2.1]))
                refine lv_iload_n hx hb dX4_pieceKind_81 rfl (lv_at hl 3 rfl) ?_
                refine lv_istore_n (lv' := [(2, .int (nI (grN (fun k => cnt (inP (FN kd lb).1 kd a k) 256) wo k))), (5, .int (nI (cnt (inP (FN kd lb).1 kd a (grN (fun k => cnt (inP (FN kd lb).1 kd a k) 256) wo k)) 256))), (4, .int (nI (cnt (inP (FN kd lb).1 kd a k) 256))), (3, .int (nI k)), (0, .ref m_), (1, .int (nI a))]) hx hb dX4_pieceKind_82 rfl hl (by decide) rfl (fun ls hl => ?_)
                have hl := gr_loc hl (grN_f (sc := (fun k => cnt (inP (FN kd lb).1 kd a k) 256)) (wo := wo) hk1 hno)
                obtain ⟨x83, ex83⟩ : ∃ y : Int32, y = (nI k) + 1 := ⟨_, rfl⟩
                refine lv_iinc (v := x83) (lv' := [(3, .int x83), (2, .int (nI (grN (fun k => cnt (inP (FN kd lb).1 kd a k) 256) wo (k + 1)))), (5, .int (nI (cnt (inP (FN kd lb).1 kd a (grN (fun k => cnt (inP (FN kd lb).1 kd a k) 256) wo k)) 256))), (4, .int (nI (cnt (inP (FN kd lb).1 kd a k) 256))), (0, .ref m_), (1, .int (nI a))]) hx hb dX4_pieceKind_83 hl (k := 3) rfl (by rw [ex83]; rfl) (by decide) rfl (fun ls hl => ?_)
                obtain rfl : x83 = nI (k + 1) := by rw [ex83]; exact nI_1 _
                refine lv_goto (tgt := 23) hx hb dX4_pieceKind_86 (by decide) ?_
                exact ih_23 (k + 1) (by omega) (by omega) (by omega) H locs ls hP hD hS (lv_sub hl [0, 1, 4, 5] rfl)
              · skip
                have hse : (cnt (inP (FN kd lb).1 kd a k) 256) = (cnt (inP (FN kd lb).1 kd a (grN (fun k => cnt (inP (FN kd lb).1 kd a k) 256) wo k)) 256) := (nI_eq (by omega) (by omega)).mp c58
                refine lv_aload_n hx hb dX4_pieceKind_61 rfl (lv_at hl 4 rfl) ?_
                refine va_get (D := D) (ci := 5) (v := .ref mo_) (C := RX4) (T := TX4) (N := 17) hx hb hts in_X4 hown hK hP 0 rfl rfl 9 (by decide) f_29 (fun _ h9 => h9) rfl dX4_pieceKind_62 ?_
                refine lv_iload_n hx hb dX4_pieceKind_65 rfl (lv_at hl 2 rfl) ?_
                refine va_lald hx hb hK hP (6) 1 rfl rfl (by first | exact vp_in_nI (by omega) (by omega) | assumption) dX4_pieceKind_66 ?_
                refine lv_topl (fun x66 ex66 => ?_)
                rw [nI_clamp (by omega)] at ex66
                obtain rfl : x66 = wo k := by exact ex66
                refine lv_aload_n hx hb dX4_pieceKind_67 rfl (lv_at hl 4 rfl) ?_
                refine va_get (D := D) (ci := 5) (v := .ref mo_) (C := RX4) (T := TX4) (N := 17) hx hb hts in_X4 hown hK hP 0 rfl rfl 9 (by decide) f_29 (fun _ h9 => h9) rfl dX4_pieceKind_68 ?_
                refine lv_iload_n hx hb dX4_pieceKind_71 rfl (lv_at hl 3 rfl) ?_
                refine va_lald hx hb hK hP (6) 1 rfl rfl (by first | exact vp_in_nI (by omega) (by omega) | assumption) dX4_pieceKind_72 ?_
                refine lv_topl (fun x72 ex72 => ?_)
                rw [nI_clamp (by omega)] at ex72
                obtain rfl : x72 = wo (grN (fun k => cnt (inP (FN kd lb).1 kd a k) 256) wo k) := by exact ex72
                refine W.lcmp hx hb dX4_pieceKind_73 ?_
                refine lv_if_le (tgt := 81) hx hb dX4_pieceKind_74 (by decide) (fun c74 => ?_) (fun c74 => ?_)
                · skip
                  have hno : ¬ ((cnt (inP (FN kd lb).1 kd a (grN (fun k => cnt (inP (FN kd lb).1 kd a k) 256) wo k)) 256) < (cnt (inP (FN kd lb).1 kd a k) 256) ∨ ((cnt (inP (FN kd lb).1 kd a k) 256) = (cnt (inP (FN kd lb).1 kd a (grN (fun k => cnt (inP (FN kd lb).1 kd a k) 256) wo k)) 256) ∧ wo (grN (fun k => cnt (inP (FN kd lb).1 kd a k) 256) wo k) < wo k)) := fun h => h.elim hgt (fun h2 => by have := (lg_cmp_le _ _).mp c74; rw [Int64.le_iff_toInt_le] at this; have h3 := h2.2; rw [Int64.lt_iff_toInt_lt] at h3; omega)
                  refine lv_iload_n hx hb dX4_pieceKind_81 rfl (lv_at hl 3 rfl) ?_
                  refine lv_istore_n (lv' := [(2, .int (nI (grN (fun k => cnt (inP (FN kd lb).1 kd a k) 256) wo k))), (5, .int (nI (cnt (inP (FN kd lb).1 kd a (grN (fun k => cnt (inP (FN kd lb).1 kd a k) 256) wo k)) 256))), (4, .int (nI (cnt (inP (FN kd lb).1 kd a k) 256))), (3, .int (nI k)), (0, .ref m_), (1, .int (nI a))]) hx hb dX4_pieceKind_82 rfl hl (by decide) rfl (fun ls hl => ?_)
                  have hl := gr_loc hl (grN_f (sc := (fun k => cnt (inP (FN kd lb).1 kd a k) 256)) (wo := wo) hk1 hno)
                  obtain ⟨x83, ex83⟩ : ∃ y : Int32, y = (nI k) + 1 := ⟨_, rfl⟩
                  refine lv_iinc (v := x83) (lv' := [(3, .int x83), (2, .int (nI (grN (fun k => cnt (inP (FN kd lb).1 kd a k) 256) wo (k + 1)))), (5, .int (nI (cnt (inP (FN kd lb).1 kd a (grN (fun k => cnt (inP (FN kd lb).1 kd a k) 256) wo k)) 256))), (4, .int (nI (cnt (inP (FN kd lb).1 kd a k) 256))), (0, .ref m_), (1, .int (nI a))]) hx hb dX4_pieceKind_83 hl (k := 3) rfl (by rw [ex83]; rfl) (by decide) rfl (fun ls hl => ?_)
                  obtain rfl : x83 = nI (k + 1) := by rw [ex83]; exact nI_1 _
                  refine lv_goto (tgt := 23) hx hb dX4_pieceKind_86 (by decide) ?_
                  exact ih_23 (k + 1) (by omega) (by omega) (by omega) H locs ls hP hD hS (lv_sub hl [0, 1, 4, 5] rfl)
                · skip
                  have hyes : (cnt (inP (FN kd lb).1 kd a (grN (fun k => cnt (inP (FN kd lb).1 kd a k) 256) wo k)) 256) < (cnt (inP (FN kd lb).1 kd a k) 256) ∨ ((cnt (inP (FN kd lb).1 kd a k) 256) = (cnt (inP (FN kd lb).1 kd a (grN (fun k => cnt (inP (FN kd lb).1 kd a k) 256) wo k)) 256) ∧ wo (grN (fun k => cnt (inP (FN kd lb).1 kd a k) 256) wo k) < wo k) := Or.inr ⟨hse, by have := mt (lg_cmp_le _ _).mpr c74; rw [Int64.le_iff_toInt_le] at this; rw [Int64.lt_iff_toInt_lt]; omega⟩
                  refine lv_iload_n hx hb dX4_pieceKind_77 rfl (lv_at hl 2 rfl) ?_
                  refine lv_goto (tgt := 82) hx hb dX4_pieceKind_78 (by decide) ?_
                  refine lv_istore_n (lv' := [(2, .int (nI k)), (5, .int (nI (cnt (inP (FN kd lb).1 kd a (grN (fun k => cnt (inP (FN kd lb).1 kd a k) 256) wo k)) 256))), (4, .int (nI (cnt (inP (FN kd lb).1 kd a k) 256))), (3, .int (nI k)), (0, .ref m_), (1, .int (nI a))]) hx hb dX4_pieceKind_82 rfl hl (by decide) rfl (fun ls hl => ?_)
                  have hl := gr_loc hl (grN_t (sc := (fun k => cnt (inP (FN kd lb).1 kd a k) 256)) (wo := wo) hk1 hyes)
                  obtain ⟨x83, ex83⟩ : ∃ y : Int32, y = (nI k) + 1 := ⟨_, rfl⟩
                  refine lv_iinc (v := x83) (lv' := [(3, .int x83), (2, .int (nI (grN (fun k => cnt (inP (FN kd lb).1 kd a k) 256) wo (k + 1)))), (5, .int (nI (cnt (inP (FN kd lb).1 kd a (grN (fun k => cnt (inP (FN kd lb).1 kd a k) 256) wo k)) 256))), (4, .int (nI (cnt (inP (FN kd lb).1 kd a k) 256))), (0, .ref m_), (1, .int (nI a))]) hx hb dX4_pieceKind_83 hl (k := 3) rfl (by rw [ex83]; rfl) (by decide) rfl (fun ls hl => ?_)
                  obtain rfl : x83 = nI (k + 1) := by rw [ex83]; exact nI_1 _
                  refine lv_goto (tgt := 23) hx hb dX4_pieceKind_86 (by decide) ?_
                  exact ih_23 (k + 1) (by omega) (by omega) (by omega) H locs ls hP hD hS (lv_sub hl [0, 1, 4, 5] rfl)
      exact L_23 _ 1 hK1 (Nat.le_refl _) (Nat.lt_succ_self _) H locs ls hP hD hS (lv_sub hl [0, 1, 2, 3] rfl)
    · skip
      have hB : inB x (FN kd lb).2 = false := inB_f2 (by omega) (nlt_le c14)
      refine lv_iconst (v := -1) hx hb dX4_pieceKind_17 (by decide) ?_
      subst hQe
      subst hAe
      subst hsz
      exact g_iret hx hb hr hlocks (FN kd lb).1 ⟨by rw [hB]; rfl, FN_le hlb⟩ hP hK hD hS dX4_pieceKind_18
abbrev rX4_pixel : Room := { frames := 2, cells := 0, slots := 0, locals := 57 }
set_option maxHeartbeats 4000000 in
set_option maxRecDepth 100000 in
theorem c_X4_pixel (l : Launch) (D : va_G) (cI cJ cG : ClassId) (sz : Nat) (R : va_W) (m_ md_ mw_ mv_ mk_ mr_ mo_ mf_ mb_ mx_ mp_ : Nat) (K : Nat) (n : Nat) (dn : Nat → Nat) (wn : Nat → Nat) (vn : Nat → Nat) (tk : Int64) (kn : Nat → Nat) (M : Nat → Nat → Nat) (wo : Nat → Int64) (le : Int64) (kd : Nat → Nat) (px : Nat) (F : Nat → Nat) (fc : Nat) (ft : Nat) (rw : Nat → Nat) (lb : Nat → Nat) (x y : Int32) (hI : MI K n dn wn vn kn M kd px F fc rw lb) : Met l yX4_pixel wsX4_pixel rX4_pixel (gP D (tyl cI cJ cG) [.ref m_, .int x, .int y] (mwW cI cJ cG R m_ md_ mw_ mv_ mk_ mr_ mo_ mf_ mb_ mx_ mp_ K n dn wn vn tk kn M wo le kd px F fc ft rw lb) sz) (gQi D (tyl cI cJ cG) (mwW cI cJ cG R m_ md_ mw_ mv_ mk_ mr_ mo_ mf_ mb_ mx_ mp_ K n dn wn vn tk kn M wo le kd px F fc ft rw lb) sz (fun r (u : ((Nat → Nat) × Nat) × (Nat → Nat)) => r = bI (free kd px x y) ∧ (u.1 = if free kd px x y = true then (un kd (plc x y) (RDV kn (CM M) (ceN (fu (rwN dn wn vn) rw 8)) (-1) n wo le K), px + 1) else (kd, px)) ∧ (∀ k, u.2 k ≤ 255)) (fun u => (mwW cI cJ cG R m_ md_ mw_ mv_ mk_ mr_ mo_ mf_ mb_ mx_ mp_ K n dn wn vn tk kn M wo le u.1.1 u.1.2 F fc 0 u.2 lb))) 0 0 (va_A (mwW cI cJ cG R m_ md_ mw_ mv_ mk_ mr_ mo_ mf_ mb_ mx_ mp_ K n dn wn vn tk kn M wo le kd px F fc ft rw lb) sz) := by
  refine gMet (cc := cX4_pixel) (maxL := 3) (ret := (some .boolean)) (ls0 := [(0, .ref m_), (1, .int x), (2, .int y)]) (by decide) rfl (Nat.le_of_ble_eq_true rfl) rfl ?_
  intro p e s m below meth c hx hb hr hts hown hlocks hml hname A hA hAe hsz Q hQe H locs hP hK hD hS ls hl
  have hown : s.vm.findClass RX4 = some m.cls := hown
  have in_X4 : ∀ w ∈ wsX40, w ∈ wsX4_pixel := by decide +kernel
  have f_49 := hts (.fieldLink RX4 49 "SpectrumHeadsModel" "fault" "I") (by decide +kernel)
  have f_33 := hts (.fieldLink RX4 33 "SpectrumHeadsModel" "field" "[I") (by decide +kernel)
  have f_99 := hts (.fieldLink RX4 99 "SpectrumHeadsModel" "pixels" "I") (by decide +kernel)
  obtain ⟨⟨hK1, hK4⟩, hn, ⟨hdn, hwn, hvn⟩, ⟨hkn, hM⟩, ⟨hkd, hpx, hlb⟩, ⟨hF, hfc⟩, hrw⟩ := id hI
  refine lv_aload_n hx hb dX4_pixel_0 rfl (lv_at hl 0 rfl) ?_
  refine lv_iconst (v := 0) hx hb dX4_pixel_1 (by decide) ?_
  refine va_put (D := D) (ci := 5) (v := .int 0) (ty := .int) (C := RX4) (T := TX4) (N := 17) hx hb hts in_X4 tyX4 tyX4_ok nmX4 hown hK hP hD hS 0 rfl rfl 14 (by decide) f_49 (fun _ h9 => h9) rfl (by decide +kernel) rfl rfl (Nat.le_of_ble_eq_true rfl) dX4_pixel_2 (fun H locs hP hD hS => ?_)
  have hP : va_P D vwCl (mwW cI cJ cG R m_ md_ mw_ mv_ mk_ mr_ mo_ mf_ mb_ mx_ mp_ K n dn wn vn tk kn M wo le kd px F fc 0 rw lb) H := hP
  have hD : va_D A (mwW cI cJ cG R m_ md_ mw_ mv_ mk_ mr_ mo_ mf_ mb_ mx_ mp_ K n dn wn vn tk kn M wo le kd px F fc 0 rw lb) := hD
  refine lv_iload_n hx hb dX4_pixel_5 rfl (lv_at hl 1 rfl) ?_
  refine lv_iload_n hx hb dX4_pixel_6 rfl (lv_at hl 2 rfl) ?_
  refine gc_Si (As := [.int x, .int y]) (rest := []) ⟨hx, hb, hml, hown, hts⟩ (c_X4_isPlace l D cI cJ cG H.size _ x y) (va_cwS 2 hts gX4_pixel_X4_isPlace rfl rfl rfl (by decide +kernel) ⟨Nat.le_of_ble_eq_true rfl, Nat.le_of_ble_eq_true rfl⟩) hK hP hD hS hA rfl hl.1 rfl (Nat.le_of_ble_eq_true rfl) dX4_pixel_7 ⟨Nat.le_of_ble_eq_true rfl, Nat.le_of_ble_eq_true rfl⟩ (fun r7 u7 H locs h7 hP hD hS => ?_)
  subst h7
  have hP : va_P D vwCl (mwW cI cJ cG R m_ md_ mw_ mv_ mk_ mr_ mo_ mf_ mb_ mx_ mp_ K n dn wn vn tk kn M wo le kd px F fc 0 rw lb) H := hP
  have hD : va_D A (mwW cI cJ cG R m_ md_ mw_ mv_ mk_ mr_ mo_ mf_ mb_ mx_ mp_ K n dn wn vn tk kn M wo le kd px F fc 0 rw lb) := hD
  refine lv_if_eq (tgt := 36) hx hb dX4_pixel_10 (by decide) (fun c10 => ?_) (fun c10 => ?_)
  · skip
    have hB10 := bI_0.mp c10
    have hB := free_f1 (kd := kd) (px := px) hB10
    refine lv_iconst (v := 0) hx hb dX4_pixel_36 (by decide) ?_
    subst hQe
    subst hAe
    subst hsz
    exact g_zret hx hb hr hlocks rfl ((kd, px), rw) ⟨by rw [hB]; rfl, by rw [hB]; rfl, hrw⟩ hP hK hD hS dX4_pixel_37
  · skip
    have hpl := bI_n0.mp c10
    obtain ⟨a, b, ha, hb_, rfl, rfl⟩ := isPl hpl
    refine lv_aload_n hx hb dX4_pixel_13 rfl (lv_at hl 0 rfl) ?_
    refine va_get (D := D) (ci := 5) (v := .ref mf_) (C := RX4) (T := TX4) (N := 17) hx hb hts in_X4 hown hK hP 0 rfl rfl 11 (by decide) f_33 (fun _ h9 => h9) rfl dX4_pixel_14 ?_
    refine lv_bipush (v := 16) hx hb dX4_pixel_17 (by decide) ?_
    refine lv_iload_n hx hb dX4_pixel_19 rfl (lv_at hl 2 rfl) ?_
    refine lv_imul hx hb dX4_pixel_20 ?_
    refine lv_topi (fun x20 ex20 => ?_)
    obtain rfl : x20 = nI (16 * b) := by rw [ex20]; exact pk_mul 16 _
    refine lv_iload_n hx hb dX4_pixel_21 rfl (lv_at hl 1 rfl) ?_
    refine lv_iadd hx hb dX4_pixel_22 ?_
    refine lv_topi (fun x22 ex22 => ?_)
    obtain rfl : x22 = nI (16 * b + a) := by rw [ex22]; exact nI_add _ _
    have hk6 := hkd (16 * b + a)
    refine va_iald hx hb hK hP (7) 0 rfl rfl (by first | exact vp_in_nI (by omega) (by omega) | assumption) dX4_pixel_23 ?_
    refine lv_topi (fun x23 ex23 => ?_)
    rw [nI_clamp (by omega)] at ex23
    obtain rfl : x23 = nI (kd (16 * b + a)) := by exact ex23
    refine lv_if_gt (tgt := 36) hx hb dX4_pixel_24 (by decide) (fun c24 => ?_) (fun c24 => ?_)
    · skip
      have hB := free_f2 (px := px) ha hb_ (pos_lt (by omega) c24)
      refine lv_iconst (v := 0) hx hb dX4_pixel_36 (by decide) ?_
      subst hQe
      subst hAe
      subst hsz
      exact g_zret hx hb hr hlocks rfl ((kd, px), rw) ⟨by rw [hB]; rfl, by rw [hB]; rfl, hrw⟩ hP hK hD hS dX4_pixel_37
    · skip
      have hk0 := pos_le (by omega) c24
      refine lv_aload_n hx hb dX4_pixel_27 rfl (lv_at hl 0 rfl) ?_
      refine va_get (D := D) (ci := 5) (v := .int (nI px)) (C := RX4) (T := TX4) (N := 17) hx hb hts in_X4 hown hK hP 0 rfl rfl 10 (by decide) f_99 (fun _ h9 => h9) rfl dX4_pixel_28 ?_
      refine lv_bipush (v := 100) hx hb dX4_pixel_31 (by decide) ?_
      refine lv_icmp_ne (tgt := 38) hx hb dX4_pixel_33 (by decide) (fun c33 => ?_) (fun c33 => ?_)
      · skip
        have hp1 : px < 100 := by have : ¬ px = 100 := fun h => c33 (by rw [h]; rfl); omega
        have hB := free_t ha hb_ hk0 hp1
        refine lv_aload_n hx hb dX4_pixel_38 rfl (lv_at hl 0 rfl) ?_
        refine lv_dup hx hb dX4_pixel_39 rfl ?_
        refine va_get (D := D) (ci := 5) (v := .int (nI px)) (C := RX4) (T := TX4) (N := 17) hx hb hts in_X4 hown hK hP 0 rfl rfl 10 (by decide) f_99 (fun _ h9 => h9) rfl dX4_pixel_40 ?_
        refine lv_iconst (v := 1) hx hb dX4_pixel_43 (by decide) ?_
        refine lv_iadd hx hb dX4_pixel_44 ?_
        refine lv_topi (fun x44 ex44 => ?_)
        obtain rfl : x44 = nI (px + 1) := by rw [ex44]; exact nI_1 _
        refine va_put (D := D) (ci := 5) (v := .int (nI (px + 1))) (ty := .int) (C := RX4) (T := TX4) (N := 17) hx hb hts in_X4 tyX4 tyX4_ok nmX4 hown hK hP hD hS 0 rfl rfl 10 (by decide) f_99 (fun _ h9 => h9) rfl (by decide +kernel) rfl rfl (Nat.le_of_ble_eq_true rfl) dX4_pixel_45 (fun H locs hP hD hS => ?_)
        have hP : va_P D vwCl (mwW cI cJ cG R m_ md_ mw_ mv_ mk_ mr_ mo_ mf_ mb_ mx_ mp_ K n dn wn vn tk kn M wo le kd (px + 1) F fc 0 rw lb) H := hP
        have hD : va_D A (mwW cI cJ cG R m_ md_ mw_ mv_ mk_ mr_ mo_ mf_ mb_ mx_ mp_ K n dn wn vn tk kn M wo le kd (px + 1) F fc 0 rw lb) := hD
        refine lv_aload_n hx hb dX4_pixel_48 rfl (lv_at hl 0 rfl) ?_
        refine gc_Vv (As := []) (rest := []) (ci := 5) (q0 := 0) ⟨hx, hb, hml, hown, hts⟩ (c_X4_takeNow l D cI cJ cG H.size R m_ md_ mw_ mv_ mk_ mr_ mo_ mf_ mb_ mx_ mp_ K n dn wn vn tk kn M wo le kd (px + 1) F fc 0 rw lb (MI_px hI (by omega))) (cwV 0 hts gX4_pixel_X4_takeNow rfl rfl rfl (by decide +kernel) ⟨Nat.le_of_ble_eq_true rfl, Nat.le_of_ble_eq_true rfl⟩) rfl rfl rfl hK hP hD hS hA rfl hl.1 rfl (Nat.le_of_ble_eq_true rfl) dX4_pixel_49 ⟨Nat.le_of_ble_eq_true rfl, Nat.le_of_ble_eq_true rfl⟩ (fun u49 H locs h49 hP hD hS => ?_)
        have hP : va_P D vwCl (mwW cI cJ cG R m_ md_ mw_ mv_ mk_ mr_ mo_ mf_ mb_ mx_ mp_ K n dn wn vn tk kn M wo le kd (px + 1) F fc 0 (fu (rwN dn wn vn) rw 8) lb) H := hP
        have hD : va_D A (mwW cI cJ cG R m_ md_ mw_ mv_ mk_ mr_ mo_ mf_ mb_ mx_ mp_ K n dn wn vn tk kn M wo le kd (px + 1) F fc 0 (fu (rwN dn wn vn) rw 8) lb) := hD
        refine lv_aload_n hx hb dX4_pixel_52 rfl (lv_at hl 0 rfl) ?_
        refine va_get (D := D) (ci := 5) (v := .ref mf_) (C := RX4) (T := TX4) (N := 17) hx hb hts in_X4 hown hK hP 0 rfl rfl 11 (by decide) f_33 (fun _ h9 => h9) rfl dX4_pixel_53 ?_
        refine lv_bipush (v := 16) hx hb dX4_pixel_56 (by decide) ?_
        refine lv_iload_n hx hb dX4_pixel_58 rfl (lv_at hl 2 rfl) ?_
        refine lv_imul hx hb dX4_pixel_59 ?_
        refine lv_topi (fun x59 ex59 => ?_)
        obtain rfl : x59 = nI (16 * b) := by rw [ex59]; exact pk_mul 16 _
        refine lv_iload_n hx hb dX4_pixel_60 rfl (lv_at hl 1 rfl) ?_
        refine lv_iadd hx hb dX4_pixel_61 ?_
        refine lv_topi (fun x61 ex61 => ?_)
        obtain rfl : x61 = nI (16 * b + a) := by rw [ex61]; exact nI_add _ _
        refine lv_iconst (v := 2) hx hb dX4_pixel_62 (by decide) ?_
        refine lv_aload_n hx hb dX4_pixel_63 rfl (lv_at hl 0 rfl) ?_
        refine lv_iconst (v := -1) hx hb dX4_pixel_64 (by decide) ?_
        refine gc_Vi (As := [.int (-1)]) (rest := [.int 2, .int (nI (16 * b + a)), .ref mf_]) (ci := 5) (q0 := 0) ⟨hx, hb, hml, hown, hts⟩ (c_X4_readRow l D cI cJ cG H.size R m_ md_ mw_ mv_ mk_ mr_ mo_ mf_ mb_ mx_ mp_ K n dn wn vn tk kn M wo le kd (px + 1) F fc 0 (fu (rwN dn wn vn) rw 8) lb (-1) (MI_rw (MI_px hI (by omega)) (nr_le hrw))) (cwV 1 hts gX4_pixel_X4_readRow rfl rfl rfl (by decide +kernel) ⟨Nat.le_of_ble_eq_true rfl, Nat.le_of_ble_eq_true rfl⟩) rfl rfl rfl hK hP hD hS hA rfl hl.1 rfl (Nat.le_of_ble_eq_true rfl) dX4_pixel_65 ⟨Nat.le_of_ble_eq_true rfl, Nat.le_of_ble_eq_true rfl⟩ (fun r65 u65 H locs h65 hP hD hS => ?_)
        rw [RD_eq] at h65
        subst h65
        have hP : va_P D vwCl (mwW cI cJ cG R m_ md_ mw_ mv_ mk_ mr_ mo_ mf_ mb_ mx_ mp_ K n dn wn vn tk kn M wo le kd (px + 1) F fc 0 (fu (rwN dn wn vn) rw 8) lb) H := hP
        have hD : va_D A (mwW cI cJ cG R m_ md_ mw_ mv_ mk_ mr_ mo_ mf_ mb_ mx_ mp_ K n dn wn vn tk kn M wo le kd (px + 1) F fc 0 (fu (rwN dn wn vn) rw 8) lb) := hD
        refine lv_iadd hx hb dX4_pixel_68 ?_
        refine lv_topi (fun x68 ex68 => ?_)
        obtain rfl : x68 = nI (RDV kn (CM M) (ceN (fu (rwN dn wn vn) rw 8)) (-1) n wo le K) := by rw [ex68]; exact two_add
        refine va_iast hx hb hK hP hD hS 7 0 rfl rfl (by first | exact vp_in_nI (by omega) (by omega) | assumption) dX4_pixel_69 (fun H locs hP hD hS => ?_)
        rw [nI_clamp (by omega)] at hP hD
        have hP : va_P D vwCl ((m_, .inr (5, [.int (nI K), .ref md_, .ref mw_, .ref mv_, .long tk, .int (nI n), .ref mk_, .ref mr_, .long le, .ref mo_, .int (nI (px + 1)), .ref mf_, .ref mb_, .int (nI fc), .int (nI 0), .ref mx_, .ref mp_])) :: (md_, .inl (cI, 8, .inl (nf dn))) :: (mw_, .inl (cI, 8, .inl (nf wn))) :: (mv_, .inl (cI, 8, .inl (nf vn))) :: (mk_, .inl (cI, 40, .inl (nf kn))) :: (mr_, .inl (cI, 320, .inl (nf (fM M)))) :: (mo_, .inl (cJ, 4, .inr (.inl wo))) :: (mf_, .inl (cI, 256, .inl (upd (nf kd) (16 * b + a) (nI (RDV kn (CM M) (ceN (fu (rwN dn wn vn) rw 8)) (-1) n wo le K))))) :: (mb_, .inl (cI, 400, .inl (nf F))) :: (mx_, .inl (cI, 8, .inl (nf (fu (rwN dn wn vn) rw 8)))) :: (mp_, .inl (cI, 256, .inl (l1 lb))) :: R) H := hP
        have hD : va_D A ((m_, .inr (5, [.int (nI K), .ref md_, .ref mw_, .ref mv_, .long tk, .int (nI n), .ref mk_, .ref mr_, .long le, .ref mo_, .int (nI (px + 1)), .ref mf_, .ref mb_, .int (nI fc), .int (nI 0), .ref mx_, .ref mp_])) :: (md_, .inl (cI, 8, .inl (nf dn))) :: (mw_, .inl (cI, 8, .inl (nf wn))) :: (mv_, .inl (cI, 8, .inl (nf vn))) :: (mk_, .inl (cI, 40, .inl (nf kn))) :: (mr_, .inl (cI, 320, .inl (nf (fM M)))) :: (mo_, .inl (cJ, 4, .inr (.inl wo))) :: (mf_, .inl (cI, 256, .inl (upd (nf kd) (16 * b + a) (nI (RDV kn (CM M) (ceN (fu (rwN dn wn vn) rw 8)) (-1) n wo le K))))) :: (mb_, .inl (cI, 400, .inl (nf F))) :: (mx_, .inl (cI, 8, .inl (nf (fu (rwN dn wn vn) rw 8)))) :: (mp_, .inl (cI, 256, .inl (l1 lb))) :: R) := hD
        have hW_ : upd (nf kd) (16 * b + a) (nI (RDV kn (CM M) (ceN (fu (rwN dn wn vn) rw 8)) (-1) n wo le K)) = nf (un kd (16 * b + a) (RDV kn (CM M) (ceN (fu (rwN dn wn vn) rw 8)) (-1) n wo le K)) := by exact nf_upd _ _ _
        rw [hW_] at hP hD
        have hP : va_P D vwCl (mwW cI cJ cG R m_ md_ mw_ mv_ mk_ mr_ mo_ mf_ mb_ mx_ mp_ K n dn wn vn tk kn M wo le (un kd (16 * b + a) (RDV kn (CM M) (ceN (fu (rwN dn wn vn) rw 8)) (-1) n wo le K)) (px + 1) F fc 0 (fu (rwN dn wn vn) rw 8) lb) H := hP
        have hD : va_D A (mwW cI cJ cG R m_ md_ mw_ mv_ mk_ mr_ mo_ mf_ mb_ mx_ mp_ K n dn wn vn tk kn M wo le (un kd (16 * b + a) (RDV kn (CM M) (ceN (fu (rwN dn wn vn) rw 8)) (-1) n wo le K)) (px + 1) F fc 0 (fu (rwN dn wn vn) rw 8) lb) := hD
        refine lv_iconst (v := 1) hx hb dX4_pixel_70 (by decide) ?_
        subst hQe
        subst hAe
        subst hsz
        exact g_zret hx hb hr hlocks rfl ((un kd (16 * b + a) (RDV kn (CM M) (ceN (fu (rwN dn wn vn) rw 8)) (-1) n wo le K), px + 1), (fu (rwN dn wn vn) rw 8)) ⟨by rw [hB]; rfl, by rw [hB, plc_nI ha hb_]; rfl, nr_le hrw⟩ hP hK hD hS dX4_pixel_71
      · skip
        have hp1 : px = 100 := (nI_eq (b := 100) (by omega) (by omega)).mp c33
        have hB := free_f3 (kd := kd) (x := nI a) (y := nI b) (show ¬ px < 100 by omega)
        refine lv_iconst (v := 0) hx hb dX4_pixel_36 (by decide) ?_
        subst hQe
        subst hAe
        subst hsz
        exact g_zret hx hb hr hlocks rfl ((kd, px), rw) ⟨by rw [hB]; rfl, by rw [hB]; rfl, hrw⟩ hP hK hD hS dX4_pixel_37
