abbrev mwW (cI cJ cG : ClassId) (R : va_W) (m_ md_ mw_ mv_ mk_ mr_ mo_ mf_ mb_ mx_ mp_ : Nat) (K : Nat) (n : Nat) (dn : Nat → Nat) (wn : Nat → Nat) (vn : Nat → Nat) (tk : Int64) (kn : Nat → Nat) (M : Nat → Nat → Nat) (wo : Nat → Int64) (le : Int64) (kd : Nat → Nat) (px : Nat) (F : Nat → Nat) (fc : Nat) (ft : Nat) (rw : Nat → Nat) (lb : Nat → Nat) : va_W := ((m_, .inr (5, [.int (nI K), .ref md_, .ref mw_, .ref mv_, .long tk, .int (nI n), .ref mk_, .ref mr_, .long le, .ref mo_, .int (nI px), .ref mf_, .ref mb_, .int (nI fc), .int (nI ft), .ref mx_, .ref mp_])) :: (md_, .inl (cI, 8, .inl (nf dn))) :: (mw_, .inl (cI, 8, .inl (nf wn))) :: (mv_, .inl (cI, 8, .inl (nf vn))) :: (mk_, .inl (cI, 40, .inl (nf kn))) :: (mr_, .inl (cI, 320, .inl (nf (fM M)))) :: (mo_, .inl (cJ, 4, .inr (.inl wo))) :: (mf_, .inl (cI, 256, .inl (nf kd))) :: (mb_, .inl (cI, 400, .inl (nf F))) :: (mx_, .inl (cI, 8, .inl (nf rw))) :: (mp_, .inl (cI, 256, .inl (l1 lb))) :: R)
abbrev rX4_thrown : Room := { frames := 0, cells := 0, slots := 0, locals := 0 }
set_option maxHeartbeats 4000000 in
set_option maxRecDepth 100000 in
theorem c_X4_thrown (l : Launch) (D : va_G) (cI cJ cG : ClassId) (sz : Nat) (R : va_W) (m_ md_ mw_ mv_ mk_ mr_ mo_ mf_ mb_ mx_ mp_ : Nat) (K : Nat) (n : Nat) (dn : Nat → Nat) (wn : Nat → Nat) (vn : Nat → Nat) (tk : Int64) (kn : Nat → Nat) (M : Nat → Nat → Nat) (wo : Nat → Int64) (le : Int64) (kd : Nat → Nat) (px : Nat) (F : Nat → Nat) (fc : Nat) (ft : Nat) (rw : Nat → Nat) (lb : Nat → Nat) : Met l yX4_thrown wsX4_thrown rX4_thrown (gP D (tyl cI cJ cG) [.ref m_] (mwW cI cJ cG R m_ md_ mw_ mv_ mk_ mr_ mo_ mf_ mb_ mx_ mp_ K n dn wn vn tk kn M wo le kd px F fc ft rw lb) sz) (gQi D (tyl cI cJ cG) (mwW cI cJ cG R m_ md_ mw_ mv_ mk_ mr_ mo_ mf_ mb_ mx_ mp_ K n dn wn vn tk kn M wo le kd px F fc ft rw lb) sz (fun r (_ : Unit) => r = nI ft) (fun _ => (mwW cI cJ cG R m_ md_ mw_ mv_ mk_ mr_ mo_ mf_ mb_ mx_ mp_ K n dn wn vn tk kn M wo le kd px F fc ft rw lb))) 0 0 (va_A (mwW cI cJ cG R m_ md_ mw_ mv_ mk_ mr_ mo_ mf_ mb_ mx_ mp_ K n dn wn vn tk kn M wo le kd px F fc ft rw lb) sz) := by
  refine gMet (cc := cX4_thrown) (maxL := 1) (ret := (some .int)) (ls0 := [(0, .ref m_)]) (by decide) rfl (Nat.le_of_ble_eq_true rfl) rfl ?_
  intro p e s m below meth c hx hb hr hts hown hlocks hml hname A hA hAe hsz Q hQe H locs hP hK hD hS ls hl
  have hown : s.vm.findClass RX4 = some m.cls := hown
  have in_X4 : ∀ w ∈ wsX40, w ∈ wsX4_thrown := by decide +kernel
  have f_49 := hts (.fieldLink RX4 49 "SpectrumHeadsModel" "fault" "I") (by decide +kernel)
  refine lv_aload_n hx hb dX4_thrown_0 rfl (lv_at hl 0 rfl) ?_
  refine va_get (D := D) (ci := 5) (v := .int (nI ft)) (C := RX4) (T := TX4) (N := 17) hx hb hts in_X4 hown hK hP 0 rfl rfl 14 (by decide) f_49 (fun _ h9 => h9) rfl dX4_thrown_1 ?_
  subst hQe
  subst hAe
  subst hsz
  exact g_iret hx hb hr hlocks () rfl hP hK hD hS dX4_thrown_4
abbrev rX4_isKind : Room := { frames := 0, cells := 0, slots := 0, locals := 0 }
set_option maxHeartbeats 4000000 in
set_option maxRecDepth 100000 in
theorem c_X4_isKind (l : Launch) (D : va_G) (cI cJ cG : ClassId) (sz : Nat) (R : va_W) (m_ md_ mw_ mv_ mk_ mr_ mo_ mf_ mb_ mx_ mp_ : Nat) (K : Nat) (n : Nat) (dn : Nat → Nat) (wn : Nat → Nat) (vn : Nat → Nat) (tk : Int64) (kn : Nat → Nat) (M : Nat → Nat → Nat) (wo : Nat → Int64) (le : Int64) (kd : Nat → Nat) (px : Nat) (F : Nat → Nat) (fc : Nat) (ft : Nat) (rw : Nat → Nat) (lb : Nat → Nat) (x : Int32) (hI : MI K n dn wn vn kn M kd px F fc rw lb) : Met l yX4_isKind wsX4_isKind rX4_isKind (gP D (tyl cI cJ cG) [.ref m_, .int x] (mwW cI cJ cG R m_ md_ mw_ mv_ mk_ mr_ mo_ mf_ mb_ mx_ mp_ K n dn wn vn tk kn M wo le kd px F fc ft rw lb) sz) (gQi D (tyl cI cJ cG) (mwW cI cJ cG R m_ md_ mw_ mv_ mk_ mr_ mo_ mf_ mb_ mx_ mp_ K n dn wn vn tk kn M wo le kd px F fc ft rw lb) sz (fun r (_ : Unit) => r = bI (inB x K)) (fun _ => (mwW cI cJ cG R m_ md_ mw_ mv_ mk_ mr_ mo_ mf_ mb_ mx_ mp_ K n dn wn vn tk kn M wo le kd px F fc ft rw lb))) 0 0 (va_A (mwW cI cJ cG R m_ md_ mw_ mv_ mk_ mr_ mo_ mf_ mb_ mx_ mp_ K n dn wn vn tk kn M wo le kd px F fc ft rw lb) sz) := by
  refine gMet (cc := cX4_isKind) (maxL := 2) (ret := (some .boolean)) (ls0 := [(0, .ref m_), (1, .int x)]) (by decide) rfl (Nat.le_of_ble_eq_true rfl) rfl ?_
  intro p e s m below meth c hx hb hr hts hown hlocks hml hname A hA hAe hsz Q hQe H locs hP hK hD hS ls hl
  have hown : s.vm.findClass RX4 = some m.cls := hown
  have in_X4 : ∀ w ∈ wsX40, w ∈ wsX4_isKind := by decide +kernel
  have f_45 := hts (.fieldLink RX4 45 "SpectrumHeadsModel" "kinds" "I") (by decide +kernel)
  obtain ⟨⟨hK1, hK4⟩, hn, ⟨hdn, hwn, hvn⟩, ⟨hkn, hM⟩, ⟨hkd, hpx, hlb⟩, ⟨hF, hfc⟩, hrw⟩ := id hI
  refine lv_iload_n hx hb dX4_isKind_0 rfl (lv_at hl 1 rfl) ?_
  refine lv_if_lt (tgt := 16) hx hb dX4_isKind_1 (by decide) (fun c1 => ?_) (fun c1 => ?_)
  · skip
    refine lv_iconst (v := 0) hx hb dX4_isKind_16 (by decide) ?_
    subst hQe
    subst hAe
    subst hsz
    exact g_zret hx hb hr hlocks rfl () (by first | (rw [inB_f1 c1]; rfl) | (rw [inB_f2 (n := K) (by omega) c9]; rfl) | (rw [inB_t (n := K) (by omega) c1 c9]; rfl)) hP hK hD hS dX4_isKind_17
  · skip
    refine lv_iload_n hx hb dX4_isKind_4 rfl (lv_at hl 1 rfl) ?_
    refine lv_aload_n hx hb dX4_isKind_5 rfl (lv_at hl 0 rfl) ?_
    refine va_get (D := D) (ci := 5) (v := .int (nI K)) (C := RX4) (T := TX4) (N := 17) hx hb hts in_X4 hown hK hP 0 rfl rfl 0 (by decide) f_45 (fun _ h9 => h9) rfl dX4_isKind_6 ?_
    refine lv_icmp_ge (tgt := 16) hx hb dX4_isKind_9 (by decide) (fun c9 => ?_) (fun c9 => ?_)
    · skip
      refine lv_iconst (v := 0) hx hb dX4_isKind_16 (by decide) ?_
      subst hQe
      subst hAe
      subst hsz
      exact g_zret hx hb hr hlocks rfl () (by first | (rw [inB_f1 c1]; rfl) | (rw [inB_f2 (n := K) (by omega) c9]; rfl) | (rw [inB_t (n := K) (by omega) c1 c9]; rfl)) hP hK hD hS dX4_isKind_17
    · skip
      refine lv_iconst (v := 1) hx hb dX4_isKind_12 (by decide) ?_
      refine lv_goto (tgt := 17) hx hb dX4_isKind_13 (by decide) ?_
      subst hQe
      subst hAe
      subst hsz
      exact g_zret hx hb hr hlocks rfl () (by first | (rw [inB_f1 c1]; rfl) | (rw [inB_f2 (n := K) (by omega) c9]; rfl) | (rw [inB_t (n := K) (by omega) c1 c9]; rfl)) hP hK hD hS dX4_isKind_17
abbrev rX4_dark : Room := { frames := 1, cells := 0, slots := 0, locals := 20 }
set_option maxHeartbeats 4000000 in
set_option maxRecDepth 100000 in
theorem c_X4_dark (l : Launch) (D : va_G) (cI cJ cG : ClassId) (sz : Nat) (R : va_W) (m_ md_ mw_ mv_ mk_ mr_ mo_ mf_ mb_ mx_ mp_ : Nat) (K : Nat) (n : Nat) (dn : Nat → Nat) (wn : Nat → Nat) (vn : Nat → Nat) (tk : Int64) (kn : Nat → Nat) (M : Nat → Nat → Nat) (wo : Nat → Int64) (le : Int64) (kd : Nat → Nat) (px : Nat) (F : Nat → Nat) (fc : Nat) (ft : Nat) (rw : Nat → Nat) (lb : Nat → Nat) (x y : Int32) (hI : MI K n dn wn vn kn M kd px F fc rw lb) : Met l yX4_dark wsX4_dark rX4_dark (gP D (tyl cI cJ cG) [.ref m_, .int x, .int y] (mwW cI cJ cG R m_ md_ mw_ mv_ mk_ mr_ mo_ mf_ mb_ mx_ mp_ K n dn wn vn tk kn M wo le kd px F fc ft rw lb) sz) (gQi D (tyl cI cJ cG) (mwW cI cJ cG R m_ md_ mw_ mv_ mk_ mr_ mo_ mf_ mb_ mx_ mp_ K n dn wn vn tk kn M wo le kd px F fc ft rw lb) sz (fun r (u : Nat → Nat) => r = bI (inB x 8 && inB y 256) ∧ u = setN x y dn) (fun u => (mwW cI cJ cG R m_ md_ mw_ mv_ mk_ mr_ mo_ mf_ mb_ mx_ mp_ K n u wn vn tk kn M wo le kd px F fc 0 rw lb))) 0 0 (va_A (mwW cI cJ cG R m_ md_ mw_ mv_ mk_ mr_ mo_ mf_ mb_ mx_ mp_ K n dn wn vn tk kn M wo le kd px F fc ft rw lb) sz) := by
  refine gMet (cc := cX4_dark) (maxL := 3) (ret := (some .boolean)) (ls0 := [(0, .ref m_), (1, .int x), (2, .int y)]) (by decide) rfl (Nat.le_of_ble_eq_true rfl) rfl ?_
  intro p e s m below meth c hx hb hr hts hown hlocks hml hname A hA hAe hsz Q hQe H locs hP hK hD hS ls hl
  have hown : s.vm.findClass RX4 = some m.cls := hown
  have in_X4 : ∀ w ∈ wsX40, w ∈ wsX4_dark := by decide +kernel
  have f_49 := hts (.fieldLink RX4 49 "SpectrumHeadsModel" "fault" "I") (by decide +kernel)
  have f_7 := hts (.fieldLink RX4 7 "SpectrumHeadsModel" "darks" "[I") (by decide +kernel)
  obtain ⟨⟨hK1, hK4⟩, hn, ⟨hdn, hwn, hvn⟩, ⟨hkn, hM⟩, ⟨hkd, hpx, hlb⟩, ⟨hF, hfc⟩, hrw⟩ := id hI
  refine lv_aload_n hx hb dX4_dark_0 rfl (lv_at hl 0 rfl) ?_
  refine lv_iconst (v := 0) hx hb dX4_dark_1 (by decide) ?_
  refine va_put (D := D) (ci := 5) (v := .int 0) (ty := .int) (C := RX4) (T := TX4) (N := 17) hx hb hts in_X4 tyX4 tyX4_ok nmX4 hown hK hP hD hS 0 rfl rfl 14 (by decide) f_49 (fun _ h9 => h9) rfl (by decide +kernel) rfl rfl (Nat.le_of_ble_eq_true rfl) dX4_dark_2 (fun H locs hP hD hS => ?_)
  have hP : va_P D vwCl (mwW cI cJ cG R m_ md_ mw_ mv_ mk_ mr_ mo_ mf_ mb_ mx_ mp_ K n dn wn vn tk kn M wo le kd px F fc 0 rw lb) H := hP
  have hD : va_D A (mwW cI cJ cG R m_ md_ mw_ mv_ mk_ mr_ mo_ mf_ mb_ mx_ mp_ K n dn wn vn tk kn M wo le kd px F fc 0 rw lb) := hD
  refine lv_iload_n hx hb dX4_dark_5 rfl (lv_at hl 1 rfl) ?_
  refine gc_Si (As := [.int x]) (rest := []) ⟨hx, hb, hml, hown, hts⟩ (c_X4_isChannel l D cI cJ cG H.size _ x) (va_cwS 1 hts gX4_dark_X4_isChannel rfl rfl rfl (by decide +kernel) ⟨Nat.le_of_ble_eq_true rfl, Nat.le_of_ble_eq_true rfl⟩) hK hP hD hS hA rfl hl.1 rfl (Nat.le_of_ble_eq_true rfl) dX4_dark_6 ⟨Nat.le_of_ble_eq_true rfl, Nat.le_of_ble_eq_true rfl⟩ (fun r6 u6 H locs h6 hP hD hS => ?_)
  subst h6
  have hP : va_P D vwCl (mwW cI cJ cG R m_ md_ mw_ mv_ mk_ mr_ mo_ mf_ mb_ mx_ mp_ K n dn wn vn tk kn M wo le kd px F fc 0 rw lb) H := hP
  have hD : va_D A (mwW cI cJ cG R m_ md_ mw_ mv_ mk_ mr_ mo_ mf_ mb_ mx_ mp_ K n dn wn vn tk kn M wo le kd px F fc 0 rw lb) := hD
  refine lv_if_eq (tgt := 19) hx hb dX4_dark_9 (by decide) (fun c9 => ?_) (fun c9 => ?_)
  · skip
    have hB9 := bI_0.mp c9
    refine lv_iconst (v := 0) hx hb dX4_dark_19 (by decide) ?_
    subst hQe
    subst hAe
    subst hsz
    exact g_zret hx hb hr hlocks rfl dn (by first | exact ⟨by rw [hB9]; rfl, setN_f1 hB9⟩ | exact ⟨by rw [hB16, Bool.and_false]; rfl, setN_f2 hB16⟩) hP hK hD hS dX4_dark_20
  · skip
    have hB9 := bI_n0.mp c9
    obtain ⟨a, ha_, rfl⟩ := inB_of hB9 (by omega)
    refine lv_iload_n hx hb dX4_dark_12 rfl (lv_at hl 2 rfl) ?_
    refine gc_Si (As := [.int y]) (rest := []) ⟨hx, hb, hml, hown, hts⟩ (c_X4_isByte l D cI cJ cG H.size _ y) (va_cwS 1 hts gX4_dark_X4_isByte rfl rfl rfl (by decide +kernel) ⟨Nat.le_of_ble_eq_true rfl, Nat.le_of_ble_eq_true rfl⟩) hK hP hD hS hA rfl hl.1 rfl (Nat.le_of_ble_eq_true rfl) dX4_dark_13 ⟨Nat.le_of_ble_eq_true rfl, Nat.le_of_ble_eq_true rfl⟩ (fun r13 u13 H locs h13 hP hD hS => ?_)
    subst h13
    have hP : va_P D vwCl (mwW cI cJ cG R m_ md_ mw_ mv_ mk_ mr_ mo_ mf_ mb_ mx_ mp_ K n dn wn vn tk kn M wo le kd px F fc 0 rw lb) H := hP
    have hD : va_D A (mwW cI cJ cG R m_ md_ mw_ mv_ mk_ mr_ mo_ mf_ mb_ mx_ mp_ K n dn wn vn tk kn M wo le kd px F fc 0 rw lb) := hD
    refine lv_if_ne (tgt := 21) hx hb dX4_dark_16 (by decide) (fun c16 => ?_) (fun c16 => ?_)
    · skip
      have hB16 := bI_n0.mp c16
      obtain ⟨b, hb_, rfl⟩ := inB_of hB16 (by omega)
      refine lv_aload_n hx hb dX4_dark_21 rfl (lv_at hl 0 rfl) ?_
      refine va_get (D := D) (ci := 5) (v := .ref md_) (C := RX4) (T := TX4) (N := 17) hx hb hts in_X4 hown hK hP 0 rfl rfl 1 (by decide) f_7 (fun _ h9 => h9) rfl dX4_dark_22 ?_
      refine lv_iload_n hx hb dX4_dark_25 rfl (lv_at hl 1 rfl) ?_
      refine lv_iload_n hx hb dX4_dark_26 rfl (lv_at hl 2 rfl) ?_
      refine va_iast hx hb hK hP hD hS 1 0 rfl rfl (by first | exact vp_in_nI (by omega) (by omega) | assumption) dX4_dark_27 (fun H locs hP hD hS => ?_)
      rw [nI_clamp (by omega)] at hP hD
      have hP : va_P D vwCl ((m_, .inr (5, [.int (nI K), .ref md_, .ref mw_, .ref mv_, .long tk, .int (nI n), .ref mk_, .ref mr_, .long le, .ref mo_, .int (nI px), .ref mf_, .ref mb_, .int (nI fc), .int 0, .ref mx_, .ref mp_])) :: (md_, .inl (cI, 8, .inl (upd (nf dn) a (nI b)))) :: (mw_, .inl (cI, 8, .inl (nf wn))) :: (mv_, .inl (cI, 8, .inl (nf vn))) :: (mk_, .inl (cI, 40, .inl (nf kn))) :: (mr_, .inl (cI, 320, .inl (nf (fM M)))) :: (mo_, .inl (cJ, 4, .inr (.inl wo))) :: (mf_, .inl (cI, 256, .inl (nf kd))) :: (mb_, .inl (cI, 400, .inl (nf F))) :: (mx_, .inl (cI, 8, .inl (nf rw))) :: (mp_, .inl (cI, 256, .inl (l1 lb))) :: R) H := hP
      have hD : va_D A ((m_, .inr (5, [.int (nI K), .ref md_, .ref mw_, .ref mv_, .long tk, .int (nI n), .ref mk_, .ref mr_, .long le, .ref mo_, .int (nI px), .ref mf_, .ref mb_, .int (nI fc), .int 0, .ref mx_, .ref mp_])) :: (md_, .inl (cI, 8, .inl (upd (nf dn) a (nI b)))) :: (mw_, .inl (cI, 8, .inl (nf wn))) :: (mv_, .inl (cI, 8, .inl (nf vn))) :: (mk_, .inl (cI, 40, .inl (nf kn))) :: (mr_, .inl (cI, 320, .inl (nf (fM M)))) :: (mo_, .inl (cJ, 4, .inr (.inl wo))) :: (mf_, .inl (cI, 256, .inl (nf kd))) :: (mb_, .inl (cI, 400, .inl (nf F))) :: (mx_, .inl (cI, 8, .inl (nf rw))) :: (mp_, .inl (cI, 256, .inl (l1 lb))) :: R) := hD
      have hW_ : upd (nf dn) a (nI b) = nf (un dn a b) := by exact nf_upd _ _ _
      rw [hW_] at hP hD
      have hP : va_P D vwCl (mwW cI cJ cG R m_ md_ mw_ mv_ mk_ mr_ mo_ mf_ mb_ mx_ mp_ K n (un dn a b) wn vn tk kn M wo le kd px F fc 0 rw lb) H := hP
      have hD : va_D A (mwW cI cJ cG R m_ md_ mw_ mv_ mk_ mr_ mo_ mf_ mb_ mx_ mp_ K n (un dn a b) wn vn tk kn M wo le kd px F fc 0 rw lb) := hD
      refine lv_iconst (v := 1) hx hb dX4_dark_28 (by decide) ?_
      subst hQe
      subst hAe
      subst hsz
      exact g_zret hx hb hr hlocks rfl (un dn a b) ⟨by rw [inB_nI ha_ (by omega), inB_nI hb_ (by omega)]; rfl, setN_t ha_ hb_⟩ hP hK hD hS dX4_dark_29
    · skip
      have hB16 := bI_0.mp c16
      refine lv_iconst (v := 0) hx hb dX4_dark_19 (by decide) ?_
      subst hQe
      subst hAe
      subst hsz
      exact g_zret hx hb hr hlocks rfl dn (by first | exact ⟨by rw [hB9]; rfl, setN_f1 hB9⟩ | exact ⟨by rw [hB16, Bool.and_false]; rfl, setN_f2 hB16⟩) hP hK hD hS dX4_dark_20
abbrev rX4_value : Room := { frames := 1, cells := 0, slots := 0, locals := 20 }
set_option maxHeartbeats 4000000 in
set_option maxRecDepth 100000 in
theorem c_X4_value (l : Launch) (D : va_G) (cI cJ cG : ClassId) (sz : Nat) (R : va_W) (m_ md_ mw_ mv_ mk_ mr_ mo_ mf_ mb_ mx_ mp_ : Nat) (K : Nat) (n : Nat) (dn : Nat → Nat) (wn : Nat → Nat) (vn : Nat → Nat) (tk : Int64) (kn : Nat → Nat) (M : Nat → Nat → Nat) (wo : Nat → Int64) (le : Int64) (kd : Nat → Nat) (px : Nat) (F : Nat → Nat) (fc : Nat) (ft : Nat) (rw : Nat → Nat) (lb : Nat → Nat) (x y : Int32) (hI : MI K n dn wn vn kn M kd px F fc rw lb) : Met l yX4_value wsX4_value rX4_value (gP D (tyl cI cJ cG) [.ref m_, .int x, .int y] (mwW cI cJ cG R m_ md_ mw_ mv_ mk_ mr_ mo_ mf_ mb_ mx_ mp_ K n dn wn vn tk kn M wo le kd px F fc ft rw lb) sz) (gQi D (tyl cI cJ cG) (mwW cI cJ cG R m_ md_ mw_ mv_ mk_ mr_ mo_ mf_ mb_ mx_ mp_ K n dn wn vn tk kn M wo le kd px F fc ft rw lb) sz (fun r (u : Nat → Nat) => r = bI (inB x 8 && inB y 256) ∧ u = setN x y vn) (fun u => (mwW cI cJ cG R m_ md_ mw_ mv_ mk_ mr_ mo_ mf_ mb_ mx_ mp_ K n dn wn u tk kn M wo le kd px F fc 0 rw lb))) 0 0 (va_A (mwW cI cJ cG R m_ md_ mw_ mv_ mk_ mr_ mo_ mf_ mb_ mx_ mp_ K n dn wn vn tk kn M wo le kd px F fc ft rw lb) sz) := by
  refine gMet (cc := cX4_value) (maxL := 3) (ret := (some .boolean)) (ls0 := [(0, .ref m_), (1, .int x), (2, .int y)]) (by decide) rfl (Nat.le_of_ble_eq_true rfl) rfl ?_
  intro p e s m below meth c hx hb hr hts hown hlocks hml hname A hA hAe hsz Q hQe H locs hP hK hD hS ls hl
  have hown : s.vm.findClass RX4 = some m.cls := hown
  have in_X4 : ∀ w ∈ wsX40, w ∈ wsX4_value := by decide +kernel
  have f_49 := hts (.fieldLink RX4 49 "SpectrumHeadsModel" "fault" "I") (by decide +kernel)
  have f_16 := hts (.fieldLink RX4 16 "SpectrumHeadsModel" "values" "[I") (by decide +kernel)
  obtain ⟨⟨hK1, hK4⟩, hn, ⟨hdn, hwn, hvn⟩, ⟨hkn, hM⟩, ⟨hkd, hpx, hlb⟩, ⟨hF, hfc⟩, hrw⟩ := id hI
  refine lv_aload_n hx hb dX4_value_0 rfl (lv_at hl 0 rfl) ?_
  refine lv_iconst (v := 0) hx hb dX4_value_1 (by decide) ?_
  refine va_put (D := D) (ci := 5) (v := .int 0) (ty := .int) (C := RX4) (T := TX4) (N := 17) hx hb hts in_X4 tyX4 tyX4_ok nmX4 hown hK hP hD hS 0 rfl rfl 14 (by decide) f_49 (fun _ h9 => h9) rfl (by decide +kernel) rfl rfl (Nat.le_of_ble_eq_true rfl) dX4_value_2 (fun H locs hP hD hS => ?_)
  have hP : va_P D vwCl (mwW cI cJ cG R m_ md_ mw_ mv_ mk_ mr_ mo_ mf_ mb_ mx_ mp_ K n dn wn vn tk kn M wo le kd px F fc 0 rw lb) H := hP
  have hD : va_D A (mwW cI cJ cG R m_ md_ mw_ mv_ mk_ mr_ mo_ mf_ mb_ mx_ mp_ K n dn wn vn tk kn M wo le kd px F fc 0 rw lb) := hD
  refine lv_iload_n hx hb dX4_value_5 rfl (lv_at hl 1 rfl) ?_
  refine gc_Si (As := [.int x]) (rest := []) ⟨hx, hb, hml, hown, hts⟩ (c_X4_isChannel l D cI cJ cG H.size _ x) (va_cwS 1 hts gX4_value_X4_isChannel rfl rfl rfl (by decide +kernel) ⟨Nat.le_of_ble_eq_true rfl, Nat.le_of_ble_eq_true rfl⟩) hK hP hD hS hA rfl hl.1 rfl (Nat.le_of_ble_eq_true rfl) dX4_value_6 ⟨Nat.le_of_ble_eq_true rfl, Nat.le_of_ble_eq_true rfl⟩ (fun r6 u6 H locs h6 hP hD hS => ?_)
  subst h6
  have hP : va_P D vwCl (mwW cI cJ cG R m_ md_ mw_ mv_ mk_ mr_ mo_ mf_ mb_ mx_ mp_ K n dn wn vn tk kn M wo le kd px F fc 0 rw lb) H := hP
  have hD : va_D A (mwW cI cJ cG R m_ md_ mw_ mv_ mk_ mr_ mo_ mf_ mb_ mx_ mp_ K n dn wn vn tk kn M wo le kd px F fc 0 rw lb) := hD
  refine lv_if_eq (tgt := 19) hx hb dX4_value_9 (by decide) (fun c9 => ?_) (fun c9 => ?_)
  · skip
    have hB9 := bI_0.mp c9
    refine lv_iconst (v := 0) hx hb dX4_value_19 (by decide) ?_
    subst hQe
    subst hAe
    subst hsz
    exact g_zret hx hb hr hlocks rfl vn (by first | exact ⟨by rw [hB9]; rfl, setN_f1 hB9⟩ | exact ⟨by rw [hB16, Bool.and_false]; rfl, setN_f2 hB16⟩) hP hK hD hS dX4_value_20
  · skip
    have hB9 := bI_n0.mp c9
    obtain ⟨a, ha_, rfl⟩ := inB_of hB9 (by omega)
    refine lv_iload_n hx hb dX4_value_12 rfl (lv_at hl 2 rfl) ?_
    refine gc_Si (As := [.int y]) (rest := []) ⟨hx, hb, hml, hown, hts⟩ (c_X4_isByte l D cI cJ cG H.size _ y) (va_cwS 1 hts gX4_value_X4_isByte rfl rfl rfl (by decide +kernel) ⟨Nat.le_of_ble_eq_true rfl, Nat.le_of_ble_eq_true rfl⟩) hK hP hD hS hA rfl hl.1 rfl (Nat.le_of_ble_eq_true rfl) dX4_value_13 ⟨Nat.le_of_ble_eq_true rfl, Nat.le_of_ble_eq_true rfl⟩ (fun r13 u13 H locs h13 hP hD hS => ?_)
    subst h13
    have hP : va_P D vwCl (mwW cI cJ cG R m_ md_ mw_ mv_ mk_ mr_ mo_ mf_ mb_ mx_ mp_ K n dn wn vn tk kn M wo le kd px F fc 0 rw lb) H := hP
    have hD : va_D A (mwW cI cJ cG R m_ md_ mw_ mv_ mk_ mr_ mo_ mf_ mb_ mx_ mp_ K n dn wn vn tk kn M wo le kd px F fc 0 rw lb) := hD
    refine lv_if_ne (tgt := 21) hx hb dX4_value_16 (by decide) (fun c16 => ?_) (fun c16 => ?_)
    · skip
      have hB16 := bI_n0.mp c16
      obtain ⟨b, hb_, rfl⟩ := inB_of hB16 (by omega)
      refine lv_aload_n hx hb dX4_value_21 rfl (lv_at hl 0 rfl) ?_
      refine va_get (D := D) (ci := 5) (v := .ref mv_) (C := RX4) (T := TX4) (N := 17) hx hb hts in_X4 hown hK hP 0 rfl rfl 3 (by decide) f_16 (fun _ h9 => h9) rfl dX4_value_22 ?_
      refine lv_iload_n hx hb dX4_value_25 rfl (lv_at hl 1 rfl) ?_
      refine lv_iload_n hx hb dX4_value_26 rfl (lv_at hl 2 rfl) ?_
      refine va_iast hx hb hK hP hD hS 3 0 rfl rfl (by first | exact vp_in_nI (by omega) (by omega) | assumption) dX4_value_27 (fun H locs hP hD hS => ?_)
      rw [nI_clamp (by omega)] at hP hD
      have hP : va_P D vwCl ((m_, .inr (5, [.int (nI K), .ref md_, .ref mw_, .ref mv_, .long tk, .int (nI n), .ref mk_, .ref mr_, .long le, .ref mo_, .int (nI px), .ref mf_, .ref mb_, .int (nI fc), .int 0, .ref mx_, .ref mp_])) :: (md_, .inl (cI, 8, .inl (nf dn))) :: (mw_, .inl (cI, 8, .inl (nf wn))) :: (mv_, .inl (cI, 8, .inl (upd (nf vn) a (nI b)))) :: (mk_, .inl (cI, 40, .inl (nf kn))) :: (mr_, .inl (cI, 320, .inl (nf (fM M)))) :: (mo_, .inl (cJ, 4, .inr (.inl wo))) :: (mf_, .inl (cI, 256, .inl (nf kd))) :: (mb_, .inl (cI, 400, .inl (nf F))) :: (mx_, .inl (cI, 8, .inl (nf rw))) :: (mp_, .inl (cI, 256, .inl (l1 lb))) :: R) H := hP
      have hD : va_D A ((m_, .inr (5, [.int (nI K), .ref md_, .ref mw_, .ref mv_, .long tk, .int (nI n), .ref mk_, .ref mr_, .long le, .ref mo_, .int (nI px), .ref mf_, .ref mb_, .int (nI fc), .int 0, .ref mx_, .ref mp_])) :: (md_, .inl (cI, 8, .inl (nf dn))) :: (mw_, .inl (cI, 8, .inl (nf wn))) :: (mv_, .inl (cI, 8, .inl (upd (nf vn) a (nI b)))) :: (mk_, .inl (cI, 40, .inl (nf kn))) :: (mr_, .inl (cI, 320, .inl (nf (fM M)))) :: (mo_, .inl (cJ, 4, .inr (.inl wo))) :: (mf_, .inl (cI, 256, .inl (nf kd))) :: (mb_, .inl (cI, 400, .inl (nf F))) :: (mx_, .inl (cI, 8, .inl (nf rw))) :: (mp_, .inl (cI, 256, .inl (l1 lb))) :: R) := hD
      have hW_ : upd (nf vn) a (nI b) = nf (un vn a b) := by exact nf_upd _ _ _
      rw [hW_] at hP hD
      have hP : va_P D vwCl (mwW cI cJ cG R m_ md_ mw_ mv_ mk_ mr_ mo_ mf_ mb_ mx_ mp_ K n dn wn (un vn a b) tk kn M wo le kd px F fc 0 rw lb) H := hP
      have hD : va_D A (mwW cI cJ cG R m_ md_ mw_ mv_ mk_ mr_ mo_ mf_ mb_ mx_ mp_ K n dn wn (un vn a b) tk kn M wo le kd px F fc 0 rw lb) := hD
      refine lv_iconst (v := 1) hx hb dX4_value_28 (by decide) ?_
      subst hQe
      subst hAe
      subst hsz
      exact g_zret hx hb hr hlocks rfl (un vn a b) ⟨by rw [inB_nI ha_ (by omega), inB_nI hb_ (by omega)]; rfl, setN_t ha_ hb_⟩ hP hK hD hS dX4_value_29
    · skip
      have hB16 := bI_0.mp c16
      refine lv_iconst (v := 0) hx hb dX4_value_19 (by decide) ?_
      subst hQe
      subst hAe
      subst hsz
      exact g_zret hx hb hr hlocks rfl vn (by first | exact ⟨by rw [hB9]; rfl, setN_f1 hB9⟩ | exact ⟨by rw [hB16, Bool.and_false]; rfl, setN_f2 hB16⟩) hP hK hD hS dX4_value_20
abbrev rX4_white : Room := { frames := 1, cells := 0, slots := 0, locals := 20 }
set_option maxHeartbeats 4000000 in
set_option maxRecDepth 100000 in
theorem c_X4_white (l : Launch) (D : va_G) (cI cJ cG : ClassId) (sz : Nat) (R : va_W) (m_ md_ mw_ mv_ mk_ mr_ mo_ mf_ mb_ mx_ mp_ : Nat) (K : Nat) (n : Nat) (dn : Nat → Nat) (wn : Nat → Nat) (vn : Nat → Nat) (tk : Int64) (kn : Nat → Nat) (M : Nat → Nat → Nat) (wo : Nat → Int64) (le : Int64) (kd : Nat → Nat) (px : Nat) (F : Nat → Nat) (fc : Nat) (ft : Nat) (rw : Nat → Nat) (lb : Nat → Nat) (x y : Int32) (hI : MI K n dn wn vn kn M kd px F fc rw lb) : Met l yX4_white wsX4_white rX4_white (gP D (tyl cI cJ cG) [.ref m_, .int x, .int y] (mwW cI cJ cG R m_ md_ mw_ mv_ mk_ mr_ mo_ mf_ mb_ mx_ mp_ K n dn wn vn tk kn M wo le kd px F fc ft rw lb) sz) (gQi D (tyl cI cJ cG) (mwW cI cJ cG R m_ md_ mw_ mv_ mk_ mr_ mo_ mf_ mb_ mx_ mp_ K n dn wn vn tk kn M wo le kd px F fc ft rw lb) sz (fun r (u : (Nat → Nat) × Nat) => r = bI (inB x 8 && inB y 256) ∧ u.1 = setN x y wn ∧ u.2 = if inB x 8 = true then 0 else 1) (fun u => (mwW cI cJ cG R m_ md_ mw_ mv_ mk_ mr_ mo_ mf_ mb_ mx_ mp_ K n dn u.1 vn tk kn M wo le kd px F fc u.2 rw lb))) 0 0 (va_A (mwW cI cJ cG R m_ md_ mw_ mv_ mk_ mr_ mo_ mf_ mb_ mx_ mp_ K n dn wn vn tk kn M wo le kd px F fc ft rw lb) sz) := by
  refine gMet (cc := cX4_white) (maxL := 3) (ret := (some .boolean)) (ls0 := [(0, .ref m_), (1, .int x), (2, .int y)]) (by decide) rfl (Nat.le_of_ble_eq_true rfl) rfl ?_
  intro p e s m below meth c hx hb hr hts hown hlocks hml hname A hA hAe hsz Q hQe H locs hP hK hD hS ls hl
  have hown : s.vm.findClass RX4 = some m.cls := hown
  have in_X4 : ∀ w ∈ wsX40, w ∈ wsX4_white := by decide +kernel
  have f_49 := hts (.fieldLink RX4 49 "SpectrumHeadsModel" "fault" "I") (by decide +kernel)
  have f_13 := hts (.fieldLink RX4 13 "SpectrumHeadsModel" "whites" "[I") (by decide +kernel)
  obtain ⟨⟨hK1, hK4⟩, hn, ⟨hdn, hwn, hvn⟩, ⟨hkn, hM⟩, ⟨hkd, hpx, hlb⟩, ⟨hF, hfc⟩, hrw⟩ := id hI
  refine lv_aload_n hx hb dX4_white_0 rfl (lv_at hl 0 rfl) ?_
  refine lv_iload_n hx hb dX4_white_1 rfl (lv_at hl 1 rfl) ?_
  refine gc_Si (As := [.int x]) (rest := [.ref m_]) ⟨hx, hb, hml, hown, hts⟩ (c_X4_isChannel l D cI cJ cG H.size _ x) (va_cwS 1 hts gX4_white_X4_isChannel rfl rfl rfl (by decide +kernel) ⟨Nat.le_of_ble_eq_true rfl, Nat.le_of_ble_eq_true rfl⟩) hK hP hD hS hA rfl hl.1 rfl (Nat.le_of_ble_eq_true rfl) dX4_white_2 ⟨Nat.le_of_ble_eq_true rfl, Nat.le_of_ble_eq_true rfl⟩ (fun r2 u2 H locs h2 hP hD hS => ?_)
  subst h2
  have hP : va_P D vwCl (mwW cI cJ cG R m_ md_ mw_ mv_ mk_ mr_ mo_ mf_ mb_ mx_ mp_ K n dn wn vn tk kn M wo le kd px F fc ft rw lb) H := hP
  have hD : va_D A (mwW cI cJ cG R m_ md_ mw_ mv_ mk_ mr_ mo_ mf_ mb_ mx_ mp_ K n dn wn vn tk kn M wo le kd px F fc ft rw lb) := hD
  refine lv_if_eq (tgt := 12) hx hb dX4_white_5 (by decide) (fun c5 => ?_) (fun c5 => ?_)
  · skip
    have hB5 := bI_0.mp c5
    refine lv_iconst (v := 1) hx hb dX4_white_12 (by decide) ?_
    refine va_put (D := D) (ci := 5) (v := .int 1) (ty := .int) (C := RX4) (T := TX4) (N := 17) hx hb hts in_X4 tyX4 tyX4_ok nmX4 hown hK hP hD hS 0 rfl rfl 14 (by decide) f_49 (fun _ h9 => h9) rfl (by decide +kernel) rfl rfl (Nat.le_of_ble_eq_true rfl) dX4_white_13 (fun H locs hP hD hS => ?_)
    have hP : va_P D vwCl (mwW cI cJ cG R m_ md_ mw_ mv_ mk_ mr_ mo_ mf_ mb_ mx_ mp_ K n dn wn vn tk kn M wo le kd px F fc 1 rw lb) H := hP
    have hD : va_D A (mwW cI cJ cG R m_ md_ mw_ mv_ mk_ mr_ mo_ mf_ mb_ mx_ mp_ K n dn wn vn tk kn M wo le kd px F fc 1 rw lb) := hD
    refine lv_aload_n hx hb dX4_white_16 rfl (lv_at hl 0 rfl) ?_
    refine va_get (D := D) (ci := 5) (v := .int 1) (C := RX4) (T := TX4) (N := 17) hx hb hts in_X4 hown hK hP 0 rfl rfl 14 (by decide) f_49 (fun _ h9 => h9) rfl dX4_white_17 ?_
    refine lv_if_gt (tgt := 30) hx hb dX4_white_20 (by decide) (fun c20 => ?_) (fun c20 => ?_)
    · skip
      refine lv_iconst (v := 0) hx hb dX4_white_30 (by decide) ?_
      subst hQe
      subst hAe
      subst hsz
      exact g_zret hx hb hr hlocks rfl (wn, 1) ⟨by rw [hB5]; rfl, setN_f1 hB5, by rw [hB5]; rfl⟩ hP hK hD hS dX4_white_31
    · skip
      exact absurd (by decide) c20
  · skip
    have hB5 := bI_n0.mp c5
    obtain ⟨a, ha_, rfl⟩ := inB_of hB5 (by omega)
    refine lv_iconst (v := 0) hx hb dX4_white_8 (by decide) ?_
    refine lv_goto (tgt := 13) hx hb dX4_white_9 (by decide) ?_
    refine va_put (D := D) (ci := 5) (v := .int 0) (ty := .int) (C := RX4) (T := TX4) (N := 17) hx hb hts in_X4 tyX4 tyX4_ok nmX4 hown hK hP hD hS 0 rfl rfl 14 (by decide) f_49 (fun _ h9 => h9) rfl (by decide +kernel) rfl rfl (Nat.le_of_ble_eq_true rfl) dX4_white_13 (fun H locs hP hD hS => ?_)
    have hP : va_P D vwCl (mwW cI cJ cG R m_ md_ mw_ mv_ mk_ mr_ mo_ mf_ mb_ mx_ mp_ K n dn wn vn tk kn M wo le kd px F fc 0 rw lb) H := hP
    have hD : va_D A (mwW cI cJ cG R m_ md_ mw_ mv_ mk_ mr_ mo_ mf_ mb_ mx_ mp_ K n dn wn vn tk kn M wo le kd px F fc 0 rw lb) := hD
    refine lv_aload_n hx hb dX4_white_16 rfl (lv_at hl 0 rfl) ?_
    refine va_get (D := D) (ci := 5) (v := .int 0) (C := RX4) (T := TX4) (N := 17) hx hb hts in_X4 hown hK hP 0 rfl rfl 14 (by decide) f_49 (fun _ h9 => h9) rfl dX4_white_17 ?_
    refine lv_if_gt (tgt := 30) hx hb dX4_white_20 (by decide) (fun c20 => ?_) (fun c20 => ?_)
    · skip
      exact absurd c20 (by decide)
    · skip
      refine lv_iload_n hx hb dX4_white_23 rfl (lv_at hl 2 rfl) ?_
      refine gc_Si (As := [.int y]) (rest := []) ⟨hx, hb, hml, hown, hts⟩ (c_X4_isByte l D cI cJ cG H.size _ y) (va_cwS 1 hts gX4_white_X4_isByte rfl rfl rfl (by decide +kernel) ⟨Nat.le_of_ble_eq_true rfl, Nat.le_of_ble_eq_true rfl⟩) hK hP hD hS hA rfl hl.1 rfl (Nat.le_of_ble_eq_true rfl) dX4_white_24 ⟨Nat.le_of_ble_eq_true rfl, Nat.le_of_ble_eq_true rfl⟩ (fun r24 u24 H locs h24 hP hD hS => ?_)
      subst h24
      have hP : va_P D vwCl (mwW cI cJ cG R m_ md_ mw_ mv_ mk_ mr_ mo_ mf_ mb_ mx_ mp_ K n dn wn vn tk kn M wo le kd px F fc 0 rw lb) H := hP
      have hD : va_D A (mwW cI cJ cG R m_ md_ mw_ mv_ mk_ mr_ mo_ mf_ mb_ mx_ mp_ K n dn wn vn tk kn M wo le kd px F fc 0 rw lb) := hD
      refine lv_if_ne (tgt := 32) hx hb dX4_white_27 (by decide) (fun c27 => ?_) (fun c27 => ?_)
      · skip
        have hB27 := bI_n0.mp c27
        obtain ⟨b, hb_, rfl⟩ := inB_of hB27 (by omega)
        refine lv_aload_n hx hb dX4_white_32 rfl (lv_at hl 0 rfl) ?_
        refine va_get (D := D) (ci := 5) (v := .ref mw_) (C := RX4) (T := TX4) (N := 17) hx hb hts in_X4 hown hK hP 0 rfl rfl 2 (by decide) f_13 (fun _ h9 => h9) rfl dX4_white_33 ?_
        refine lv_iload_n hx hb dX4_white_36 rfl (lv_at hl 1 rfl) ?_
        refine lv_iload_n hx hb dX4_white_37 rfl (lv_at hl 2 rfl) ?_
        refine va_iast hx hb hK hP hD hS 2 0 rfl rfl (by first | exact vp_in_nI (by omega) (by omega) | assumption) dX4_white_38 (fun H locs hP hD hS => ?_)
        rw [nI_clamp (by omega)] at hP hD
        have hP : va_P D vwCl ((m_, .inr (5, [.int (nI K), .ref md_, .ref mw_, .ref mv_, .long tk, .int (nI n), .ref mk_, .ref mr_, .long le, .ref mo_, .int (nI px), .ref mf_, .ref mb_, .int (nI fc), .int 0, .ref mx_, .ref mp_])) :: (md_, .inl (cI, 8, .inl (nf dn))) :: (mw_, .inl (cI, 8, .inl (upd (nf wn) a (nI b)))) :: (mv_, .inl (cI, 8, .inl (nf vn))) :: (mk_, .inl (cI, 40, .inl (nf kn))) :: (mr_, .inl (cI, 320, .inl (nf (fM M)))) :: (mo_, .inl (cJ, 4, .inr (.inl wo))) :: (mf_, .inl (cI, 256, .inl (nf kd))) :: (mb_, .inl (cI, 400, .inl (nf F))) :: (mx_, .inl (cI, 8, .inl (nf rw))) :: (mp_, .inl (cI, 256, .inl (l1 lb))) :: R) H := hP
        have hD : va_D A ((m_, .inr (5, [.int (nI K), .ref md_, .ref mw_, .ref mv_, .long tk, .int (nI n), .ref mk_, .ref mr_, .long le, .ref mo_, .int (nI px), .ref mf_, .ref mb_, .int (nI fc), .int 0, .ref mx_, .ref mp_])) :: (md_, .inl (cI, 8, .inl (nf dn))) :: (mw_, .inl (cI, 8, .inl (upd (nf wn) a (nI b)))) :: (mv_, .inl (cI, 8, .inl (nf vn))) :: (mk_, .inl (cI, 40, .inl (nf kn))) :: (mr_, .inl (cI, 320, .inl (nf (fM M)))) :: (mo_, .inl (cJ, 4, .inr (.inl wo))) :: (mf_, .inl (cI, 256, .inl (nf kd))) :: (mb_, .inl (cI, 400, .inl (nf F))) :: (mx_, .inl (cI, 8, .inl (nf rw))) :: (mp_, .inl (cI, 256, .inl (l1 lb))) :: R) := hD
        have hW_ : upd (nf wn) a (nI b) = nf (un wn a b) := by exact nf_upd _ _ _
        rw [hW_] at hP hD
        have hP : va_P D vwCl (mwW cI cJ cG R m_ md_ mw_ mv_ mk_ mr_ mo_ mf_ mb_ mx_ mp_ K n dn (un wn a b) vn tk kn M wo le kd px F fc 0 rw lb) H := hP
        have hD : va_D A (mwW cI cJ cG R m_ md_ mw_ mv_ mk_ mr_ mo_ mf_ mb_ mx_ mp_ K n dn (un wn a b) vn tk kn M wo le kd px F fc 0 rw lb) := hD
        refine lv_iconst (v := 1) hx hb dX4_white_39 (by decide) ?_
        subst hQe
        subst hAe
        subst hsz
        exact g_zret hx hb hr hlocks rfl (un wn a b, 0) ⟨by rw [inB_nI ha_ (by omega), inB_nI hb_ (by omega)]; rfl, setN_t ha_ hb_, by rw [inB_nI ha_ (by omega)]; rfl⟩ hP hK hD hS dX4_white_40
      · skip
        have hB27 := bI_0.mp c27
        refine lv_iconst (v := 0) hx hb dX4_white_30 (by decide) ?_
        subst hQe
        subst hAe
        subst hsz
        exact g_zret hx hb hr hlocks rfl (wn, 0) ⟨by rw [hB27, Bool.and_false]; rfl, setN_f2 hB27, by rw [hB5]; rfl⟩ hP hK hD hS dX4_white_31
abbrev rX4_reference : Room := { frames := 1, cells := 0, slots := 0, locals := 20 }
set_option maxHeartbeats 4000000 in
set_option maxRecDepth 100000 in
theorem c_X4_reference (l : Launch) (D : va_G) (cI cJ cG : ClassId) (sz : Nat) (R : va_W) (m_ md_ mw_ mv_ mk_ mr_ mo_ mf_ mb_ mx_ mp_ : Nat) (K : Nat) (n : Nat) (dn : Nat → Nat) (wn : Nat → Nat) (vn : Nat → Nat) (tk : Int64) (kn : Nat → Nat) (M : Nat → Nat → Nat) (wo : Nat → Int64) (le : Int64) (kd : Nat → Nat) (px : Nat) (F : Nat → Nat) (fc : Nat) (ft : Nat) (rw : Nat → Nat) (lb : Nat → Nat) (x y : Int32) (t : Int64) (hI : MI K n dn wn vn kn M kd px F fc rw lb) : Met l yX4_reference wsX4_reference rX4_reference (gP D (tyl cI cJ cG) [.ref m_, .int x, .int y, .long t] (mwW cI cJ cG R m_ md_ mw_ mv_ mk_ mr_ mo_ mf_ mb_ mx_ mp_ K n dn wn vn tk kn M wo le kd px F fc ft rw lb) sz) (gQi D (tyl cI cJ cG) (mwW cI cJ cG R m_ md_ mw_ mv_ mk_ mr_ mo_ mf_ mb_ mx_ mp_ K n dn wn vn tk kn M wo le kd px F fc ft rw lb) sz (fun r (u : (Nat → Nat) × Int64) => r = bI ((inB x 8 && inB y 256) && decide (tk < t)) ∧ u = refN x y t wn tk) (fun u => (mwW cI cJ cG R m_ md_ mw_ mv_ mk_ mr_ mo_ mf_ mb_ mx_ mp_ K n dn u.1 vn u.2 kn M wo le kd px F fc 0 rw lb))) 0 0 (va_A (mwW cI cJ cG R m_ md_ mw_ mv_ mk_ mr_ mo_ mf_ mb_ mx_ mp_ K n dn wn vn tk kn M wo le kd px F fc ft rw lb) sz) := by
  refine gMet (cc := cX4_reference) (maxL := 5) (ret := (some .boolean)) (ls0 := [(0, .ref m_), (1, .int x), (2, .int y), (3, .long t)]) (by decide) rfl (Nat.le_of_ble_eq_true rfl) rfl ?_
  intro p e s m below meth c hx hb hr hts hown hlocks hml hname A hA hAe hsz Q hQe H locs hP hK hD hS ls hl
  have hown : s.vm.findClass RX4 = some m.cls := hown
  have in_X4 : ∀ w ∈ wsX40, w ∈ wsX4_reference := by decide +kernel
  have f_49 := hts (.fieldLink RX4 49 "SpectrumHeadsModel" "fault" "I") (by decide +kernel)
  have f_59 := hts (.fieldLink RX4 59 "SpectrumHeadsModel" "lastTick" "J") (by decide +kernel)
  have f_13 := hts (.fieldLink RX4 13 "SpectrumHeadsModel" "whites" "[I") (by decide +kernel)
  obtain ⟨⟨hK1, hK4⟩, hn, ⟨hdn, hwn, hvn⟩, ⟨hkn, hM⟩, ⟨hkd, hpx, hlb⟩, ⟨hF, hfc⟩, hrw⟩ := id hI
  refine lv_aload_n hx hb dX4_reference_0 rfl (lv_at hl 0 rfl) ?_
  refine lv_iconst (v := 0) hx hb dX4_reference_1 (by decide) ?_
  refine va_put (D := D) (ci := 5) (v := .int 0) (ty := .int) (C := RX4) (T := TX4) (N := 17) hx hb hts in_X4 tyX4 tyX4_ok nmX4 hown hK hP hD hS 0 rfl rfl 14 (by decide) f_49 (fun _ h9 => h9) rfl (by decide +kernel) rfl rfl (Nat.le_of_ble_eq_true rfl) dX4_reference_2 (fun H locs hP hD hS => ?_)
  have hP : va_P D vwCl (mwW cI cJ cG R m_ md_ mw_ mv_ mk_ mr_ mo_ mf_ mb_ mx_ mp_ K n dn wn vn tk kn M wo le kd px F fc 0 rw lb) H := hP
  have hD : va_D A (mwW cI cJ cG R m_ md_ mw_ mv_ mk_ mr_ mo_ mf_ mb_ mx_ mp_ K n dn wn vn tk kn M wo le kd px F fc 0 rw lb) := hD
  refine lv_iload_n hx hb dX4_reference_5 rfl (lv_at hl 1 rfl) ?_
  refine gc_Si (As := [.int x]) (rest := []) ⟨hx, hb, hml, hown, hts⟩ (c_X4_isChannel l D cI cJ cG H.size _ x) (va_cwS 1 hts gX4_reference_X4_isChannel rfl rfl rfl (by decide +kernel) ⟨Nat.le_of_ble_eq_true rfl, Nat.le_of_ble_eq_true rfl⟩) hK hP hD hS hA rfl hl.1 rfl (Nat.le_of_ble_eq_true rfl) dX4_reference_6 ⟨Nat.le_of_ble_eq_true rfl, Nat.le_of_ble_eq_true rfl⟩ (fun r6 u6 H locs h6 hP hD hS => ?_)
  subst h6
  have hP : va_P D vwCl (mwW cI cJ cG R m_ md_ mw_ mv_ mk_ mr_ mo_ mf_ mb_ mx_ mp_ K n dn wn vn tk kn M wo le kd px F fc 0 rw lb) H := hP
  have hD : va_D A (mwW cI cJ cG R m_ md_ mw_ mv_ mk_ mr_ mo_ mf_ mb_ mx_ mp_ K n dn wn vn tk kn M wo le kd px F fc 0 rw lb) := hD
  refine lv_if_eq (tgt := 28) hx hb dX4_reference_9 (by decide) (fun c9 => ?_) (fun c9 => ?_)
  · skip
    have hB9 := bI_0.mp c9
    refine lv_iconst (v := 0) hx hb dX4_reference_28 (by decide) ?_
    subst hQe
    subst hAe
    subst hsz
    exact g_zret hx hb hr hlocks rfl (wn, tk) (by first | exact ⟨by rw [hB9]; rfl, refN_f1 hB9⟩ | exact ⟨by rw [hB16, Bool.and_false]; rfl, refN_f2 hB16⟩ | exact ⟨by rw [decide_eq_false ct, Bool.and_false]; rfl, (if_neg ct).symm.trans (refN_t ha_ hb_)⟩) hP hK hD hS dX4_reference_29
  · skip
    have hB9 := bI_n0.mp c9
    obtain ⟨a, ha_, rfl⟩ := inB_of hB9 (by omega)
    refine lv_iload_n hx hb dX4_reference_12 rfl (lv_at hl 2 rfl) ?_
    refine gc_Si (As := [.int y]) (rest := []) ⟨hx, hb, hml, hown, hts⟩ (c_X4_isByte l D cI cJ cG H.size _ y) (va_cwS 1 hts gX4_reference_X4_isByte rfl rfl rfl (by decide +kernel) ⟨Nat.le_of_ble_eq_true rfl, Nat.le_of_ble_eq_true rfl⟩) hK hP hD hS hA rfl hl.1 rfl (Nat.le_of_ble_eq_true rfl) dX4_reference_13 ⟨Nat.le_of_ble_eq_true rfl, Nat.le_of_ble_eq_true rfl⟩ (fun r13 u13 H locs h13 hP hD hS => ?_)
    subst h13
    have hP : va_P D vwCl (mwW cI cJ cG R m_ md_ mw_ mv_ mk_ mr_ mo_ mf_ mb_ mx_ mp_ K n dn wn vn tk kn M wo le kd px F fc 0 rw lb) H := hP
    have hD : va_D A (mwW cI cJ cG R m_ md_ mw_ mv_ mk_ mr_ mo_ mf_ mb_ mx_ mp_ K n dn wn vn tk kn M wo le kd px F fc 0 rw lb) := hD
    refine lv_if_eq (tgt := 28) hx hb dX4_reference_16 (by decide) (fun c16 => ?_) (fun c16 => ?_)
    · skip
      have hB16 := bI_0.mp c16
      refine lv_iconst (v := 0) hx hb dX4_reference_28 (by decide) ?_
      subst hQe
      subst hAe
      subst hsz
      exact g_zret hx hb hr hlocks rfl (wn, tk) (by first | exact ⟨by rw [hB9]; rfl, refN_f1 hB9⟩ | exact ⟨by rw [hB16, Bool.and_false]; rfl, refN_f2 hB16⟩ | exact ⟨by rw [decide_eq_false ct, Bool.and_false]; rfl, (if_neg ct).symm.trans (refN_t ha_ hb_)⟩) hP hK hD hS dX4_reference_29
    · skip
      have hB16 := bI_n0.mp c16
      obtain ⟨b, hb_, rfl⟩ := inB_of hB16 (by omega)
      refine lv_lload_n hx hb dX4_reference_19 rfl (lv_at hl 3 rfl) ?_
      refine lv_aload_n hx hb dX4_reference_20 rfl (lv_at hl 0 rfl) ?_
      refine va_get (D := D) (ci := 5) (v := .long tk) (C := RX4) (T := TX4) (N := 17) hx hb hts in_X4 hown hK hP 0 rfl rfl 4 (by decide) f_59 (fun _ h9 => h9) rfl dX4_reference_21 ?_
      refine W.lcmp hx hb dX4_reference_24 ?_
      refine lv_if_gt (tgt := 30) hx hb dX4_reference_25 (by decide) (fun c25 => ?_) (fun c25 => ?_)
      · skip
        have ct : tk < t := (lg_cmp_gt _ _).mp c25
        refine lv_aload_n hx hb dX4_reference_30 rfl (lv_at hl 0 rfl) ?_
        refine lv_lload_n hx hb dX4_reference_31 rfl (lv_at hl 3 rfl) ?_
        refine va_put (D := D) (ci := 5) (v := .long t) (ty := .long) (C := RX4) (T := TX4) (N := 17) hx hb hts in_X4 tyX4 tyX4_ok nmX4 hown hK hP hD hS 0 rfl rfl 4 (by decide) f_59 (fun _ h9 => h9) rfl (by decide +kernel) rfl rfl (Nat.le_of_ble_eq_true rfl) dX4_reference_32 (fun H locs hP hD hS => ?_)
        have hP : va_P D vwCl (mwW cI cJ cG R m_ md_ mw_ mv_ mk_ mr_ mo_ mf_ mb_ mx_ mp_ K n dn wn vn t kn M wo le kd px F fc 0 rw lb) H := hP
        have hD : va_D A (mwW cI cJ cG R m_ md_ mw_ mv_ mk_ mr_ mo_ mf_ mb_ mx_ mp_ K n dn wn vn t kn M wo le kd px F fc 0 rw lb) := hD
        refine lv_aload_n hx hb dX4_reference_35 rfl (lv_at hl 0 rfl) ?_
        refine va_get (D := D) (ci := 5) (v := .ref mw_) (C := RX4) (T := TX4) (N := 17) hx hb hts in_X4 hown hK hP 0 rfl rfl 2 (by decide) f_13 (fun _ h9 => h9) rfl dX4_reference_36 ?_
        refine lv_iload_n hx hb dX4_reference_39 rfl (lv_at hl 1 rfl) ?_
        refine lv_iload_n hx hb dX4_reference_40 rfl (lv_at hl 2 rfl) ?_
        refine va_iast hx hb hK hP hD hS 2 0 rfl rfl (by first | exact vp_in_nI (by omega) (by omega) | assumption) dX4_reference_41 (fun H locs hP hD hS => ?_)
        rw [nI_clamp (by omega)] at hP hD
        have hP : va_P D vwCl ((m_, .inr (5, [.int (nI K), .ref md_, .ref mw_, .ref mv_, .long t, .int (nI n), .ref mk_, .ref mr_, .long le, .ref mo_, .int (nI px), .ref mf_, .ref mb_, .int (nI fc), .int 0, .ref mx_, .ref mp_])) :: (md_, .inl (cI, 8, .inl (nf dn))) :: (mw_, .inl (cI, 8, .inl (upd (nf wn) a (nI b)))) :: (mv_, .inl (cI, 8, .inl (nf vn))) :: (mk_, .inl (cI, 40, .inl (nf kn))) :: (mr_, .inl (cI, 320, .inl (nf (fM M)))) :: (mo_, .inl (cJ, 4, .inr (.inl wo))) :: (mf_, .inl (cI, 256, .inl (nf kd))) :: (mb_, .inl (cI, 400, .inl (nf F))) :: (mx_, .inl (cI, 8, .inl (nf rw))) :: (mp_, .inl (cI, 256, .inl (l1 lb))) :: R) H := hP
        have hD : va_D A ((m_, .inr (5, [.int (nI K), .ref md_, .ref mw_, .ref mv_, .long t, .int (nI n), .ref mk_, .ref mr_, .long le, .ref mo_, .int (nI px), .ref mf_, .ref mb_, .int (nI fc), .int 0, .ref mx_, .ref mp_])) :: (md_, .inl (cI, 8, .inl (nf dn))) :: (mw_, .inl (cI, 8, .inl (upd (nf wn) a (nI b)))) :: (mv_, .inl (cI, 8, .inl (nf vn))) :: (mk_, .inl (cI, 40, .inl (nf kn))) :: (mr_, .inl (cI, 320, .inl (nf (fM M)))) :: (mo_, .inl (cJ, 4, .inr (.inl wo))) :: (mf_, .inl (cI, 256, .inl (nf kd))) :: (mb_, .inl (cI, 400, .inl (nf F))) :: (mx_, .inl (cI, 8, .inl (nf rw))) :: (mp_, .inl (cI, 256, .inl (l1 lb))) :: R) := hD
        have hW_ : upd (nf wn) a (nI b) = nf (un wn a b) := by exact nf_upd _ _ _
        rw [hW_] at hP hD
        have hP : va_P D vwCl (mwW cI cJ cG R m_ md_ mw_ mv_ mk_ mr_ mo_ mf_ mb_ mx_ mp_ K n dn (un wn a b) vn t kn M wo le kd px F fc 0 rw lb) H := hP
        have hD : va_D A (mwW cI cJ cG R m_ md_ mw_ mv_ mk_ mr_ mo_ mf_ mb_ mx_ mp_ K n dn (un wn a b) vn t kn M wo le kd px F fc 0 rw lb) := hD
        refine lv_iconst (v := 1) hx hb dX4_reference_42 (by decide) ?_
        subst hQe
        subst hAe
        subst hsz
        exact g_zret hx hb hr hlocks rfl (un wn a b, t) ⟨by rw [inB_nI ha_ (by omega), inB_nI hb_ (by omega), decide_eq_true ct]; rfl, (if_pos ct).symm.trans (refN_t ha_ hb_)⟩ hP hK hD hS dX4_reference_43
      · skip
        have ct : ¬ tk < t := fun h => c25 ((lg_cmp_gt _ _).mpr h)
        refine lv_iconst (v := 0) hx hb dX4_reference_28 (by decide) ?_
        subst hQe
        subst hAe
        subst hsz
        exact g_zret hx hb hr hlocks rfl (wn, tk) (by first | exact ⟨by rw [hB9]; rfl, refN_f1 hB9⟩ | exact ⟨by rw [hB16, Bool.and_false]; rfl, refN_f2 hB16⟩ | exact ⟨by rw [decide_eq_false ct, Bool.and_false]; rfl, (if_neg ct).symm.trans (refN_t ha_ hb_)⟩) hP hK hD hS dX4_reference_29
abbrev rX4_evened : Room := { frames := 0, cells := 0, slots := 0, locals := 0 }
set_option maxHeartbeats 4000000 in
set_option maxRecDepth 100000 in
theorem c_X4_evened (l : Launch) (D : va_G) (cI cJ cG : ClassId) (sz : Nat) (R : va_W) (m_ md_ mw_ mv_ mk_ mr_ mo_ mf_ mb_ mx_ mp_ : Nat) (K : Nat) (n : Nat) (dn : Nat → Nat) (wn : Nat → Nat) (vn : Nat → Nat) (tk : Int64) (kn : Nat → Nat) (M : Nat → Nat → Nat) (wo : Nat → Int64) (le : Int64) (kd : Nat → Nat) (px : Nat) (F : Nat → Nat) (fc : Nat) (ft : Nat) (rw : Nat → Nat) (lb : Nat → Nat) (j : Nat) (hj : j < 8) (hI : MI K n dn wn vn kn M kd px F fc rw lb) : Met l yX4_evened wsX4_evened rX4_evened (gP D (tyl cI cJ cG) [.ref m_, .int (nI j)] (mwW cI cJ cG R m_ md_ mw_ mv_ mk_ mr_ mo_ mf_ mb_ mx_ mp_ K n dn wn vn tk kn M wo le kd px F fc ft rw lb) sz) (gQi D (tyl cI cJ cG) (mwW cI cJ cG R m_ md_ mw_ mv_ mk_ mr_ mo_ mf_ mb_ mx_ mp_ K n dn wn vn tk kn M wo le kd px F fc ft rw lb) sz (fun r (_ : Unit) => r = nI (evN (dn j) (wn j) (vn j))) (fun _ => (mwW cI cJ cG R m_ md_ mw_ mv_ mk_ mr_ mo_ mf_ mb_ mx_ mp_ K n dn wn vn tk kn M wo le kd px F fc ft rw lb))) 0 0 (va_A (mwW cI cJ cG R m_ md_ mw_ mv_ mk_ mr_ mo_ mf_ mb_ mx_ mp_ K n dn wn vn tk kn M wo le kd px F fc ft rw lb) sz) := by
  refine gMet (cc := cX4_evened) (maxL := 3) (ret := (some .int)) (ls0 := [(0, .ref m_), (1, .int (nI j))]) (by decide) rfl (Nat.le_of_ble_eq_true rfl) rfl ?_
  intro p e s m below meth c hx hb hr hts hown hlocks hml hname A hA hAe hsz Q hQe H locs hP hK hD hS ls hl
  have hown : s.vm.findClass RX4 = some m.cls := hown
  have in_X4 : ∀ w ∈ wsX40, w ∈ wsX4_evened := by decide +kernel
  have f_13 := hts (.fieldLink RX4 13 "SpectrumHeadsModel" "whites" "[I") (by decide +kernel)
  have f_7 := hts (.fieldLink RX4 7 "SpectrumHeadsModel" "darks" "[I") (by decide +kernel)
  have f_16 := hts (.fieldLink RX4 16 "SpectrumHeadsModel" "values" "[I") (by decide +kernel)
  obtain ⟨⟨hK1, hK4⟩, hn, ⟨hdn, hwn, hvn⟩, ⟨hkn, hM⟩, ⟨hkd, hpx, hlb⟩, ⟨hF, hfc⟩, hrw⟩ := id hI
  have hd1 := hdn j
  have hw1 := hwn j
  have hv1 := hvn j
  refine lv_aload_n hx hb dX4_evened_0 rfl (lv_at hl 0 rfl) ?_
  refine va_get (D := D) (ci := 5) (v := .ref mw_) (C := RX4) (T := TX4) (N := 17) hx hb hts in_X4 hown hK hP 0 rfl rfl 2 (by decide) f_13 (fun _ h9 => h9) rfl dX4_evened_1 ?_
  refine lv_iload_n hx hb dX4_evened_4 rfl (lv_at hl 1 rfl) ?_
  refine va_iald hx hb hK hP (2) 0 rfl rfl (by first | exact vp_in_nI (by omega) (by omega) | assumption) dX4_evened_5 ?_
  refine lv_topi (fun x5 ex5 => ?_)
  rw [nI_clamp (by omega)] at ex5
  obtain rfl : x5 = nI (wn j) := by exact ex5
  refine lv_aload_n hx hb dX4_evened_6 rfl (lv_at hl 0 rfl) ?_
  refine va_get (D := D) (ci := 5) (v := .ref md_) (C := RX4) (T := TX4) (N := 17) hx hb hts in_X4 hown hK hP 0 rfl rfl 1 (by decide) f_7 (fun _ h9 => h9) rfl dX4_evened_7 ?_
  refine lv_iload_n hx hb dX4_evened_10 rfl (lv_at hl 1 rfl) ?_
  refine va_iald hx hb hK hP (1) 0 rfl rfl (by first | exact vp_in_nI (by omega) (by omega) | assumption) dX4_evened_11 ?_
  refine lv_topi (fun x11 ex11 => ?_)
  rw [nI_clamp (by omega)] at ex11
  obtain rfl : x11 = nI (dn j) := by exact ex11
  refine lv_icmp_le (tgt := 30) hx hb dX4_evened_12 (by decide) (fun c12 => ?_) (fun c12 => ?_)
  · skip
    have c1 : wn j ≤ dn j := (nI_leI (by omega) (by omega)).mp c12
    refine lv_iconst (v := 0) hx hb dX4_evened_30 (by decide) ?_
    subst hQe
    subst hAe
    subst hsz
    exact g_iret hx hb hr hlocks () (by first | exact ev_le c1 | exact ev_lv c2) hP hK hD hS dX4_evened_31
  · skip
    have c1 : dn j < wn j := by have := mt (nI_leI (by omega) (by omega)).mpr c12; omega
    refine lv_aload_n hx hb dX4_evened_15 rfl (lv_at hl 0 rfl) ?_
    refine va_get (D := D) (ci := 5) (v := .ref mv_) (C := RX4) (T := TX4) (N := 17) hx hb hts in_X4 hown hK hP 0 rfl rfl 3 (by decide) f_16 (fun _ h9 => h9) rfl dX4_evened_16 ?_
    refine lv_iload_n hx hb dX4_evened_19 rfl (lv_at hl 1 rfl) ?_
    refine va_iald hx hb hK hP (3) 0 rfl rfl (by first | exact vp_in_nI (by omega) (by omega) | assumption) dX4_evened_20 ?_
    refine lv_topi (fun x20 ex20 => ?_)
    rw [nI_clamp (by omega)] at ex20
    obtain rfl : x20 = nI (vn j) := by exact ex20
    refine lv_aload_n hx hb dX4_evened_21 rfl (lv_at hl 0 rfl) ?_
    refine va_get (D := D) (ci := 5) (v := .ref md_) (C := RX4) (T := TX4) (N := 17) hx hb hts in_X4 hown hK hP 0 rfl rfl 1 (by decide) f_7 (fun _ h9 => h9) rfl dX4_evened_22 ?_
    refine lv_iload_n hx hb dX4_evened_25 rfl (lv_at hl 1 rfl) ?_
    refine va_iald hx hb hK hP (1) 0 rfl rfl (by first | exact vp_in_nI (by omega) (by omega) | assumption) dX4_evened_26 ?_
    refine lv_topi (fun x26 ex26 => ?_)
    rw [nI_clamp (by omega)] at ex26
    obtain rfl : x26 = nI (dn j) := by exact ex26
    refine lv_icmp_gt (tgt := 32) hx hb dX4_evened_27 (by decide) (fun c27 => ?_) (fun c27 => ?_)
    · skip
      have c2 : dn j < vn j := (nI_ltI (by omega) (by omega)).mp c27
      refine lv_sipush (v := 256) hx hb dX4_evened_32 (by decide) ?_
      refine lv_aload_n hx hb dX4_evened_35 rfl (lv_at hl 0 rfl) ?_
      refine va_get (D := D) (ci := 5) (v := .ref mv_) (C := RX4) (T := TX4) (N := 17) hx hb hts in_X4 hown hK hP 0 rfl rfl 3 (by decide) f_16 (fun _ h9 => h9) rfl dX4_evened_36 ?_
      refine lv_iload_n hx hb dX4_evened_39 rfl (lv_at hl 1 rfl) ?_
      refine va_iald hx hb hK hP (3) 0 rfl rfl (by first | exact vp_in_nI (by omega) (by omega) | assumption) dX4_evened_40 ?_
      refine lv_topi (fun x40 ex40 => ?_)
      rw [nI_clamp (by omega)] at ex40
      obtain rfl : x40 = nI (vn j) := by exact ex40
      refine lv_aload_n hx hb dX4_evened_41 rfl (lv_at hl 0 rfl) ?_
      refine va_get (D := D) (ci := 5) (v := .ref md_) (C := RX4) (T := TX4) (N := 17) hx hb hts in_X4 hown hK hP 0 rfl rfl 1 (by decide) f_7 (fun _ h9 => h9) rfl dX4_evened_42 ?_
      refine lv_iload_n hx hb dX4_evened_45 rfl (lv_at hl 1 rfl) ?_
      refine va_iald hx hb hK hP (1) 0 rfl rfl (by first | exact vp_in_nI (by omega) (by omega) | assumption) dX4_evened_46 ?_
      refine lv_topi (fun x46 ex46 => ?_)
      rw [nI_clamp (by omega)] at ex46
      obtain rfl : x46 = nI (dn j) := by exact ex46
      refine lv_isub hx hb dX4_evened_47 ?_
      refine lv_topi (fun x47 ex47 => ?_)
      obtain rfl : x47 = nI (vn j - dn j) := by rw [ex47]; exact pk_sub (by omega)
      refine lv_imul hx hb dX4_evened_48 ?_
      refine lv_topi (fun x48 ex48 => ?_)
      obtain rfl : x48 = nI (256 * (vn j - dn j)) := by rw [ex48]; exact pk_mul 256 _
      refine lv_aload_n hx hb dX4_evened_49 rfl (lv_at hl 0 rfl) ?_
      refine va_get (D := D) (ci := 5) (v := .ref mw_) (C := RX4) (T := TX4) (N := 17) hx hb hts in_X4 hown hK hP 0 rfl rfl 2 (by decide) f_13 (fun _ h9 => h9) rfl dX4_evened_50 ?_
      refine lv_iload_n hx hb dX4_evened_53 rfl (lv_at hl 1 rfl) ?_
      refine va_iald hx hb hK hP (2) 0 rfl rfl (by first | exact vp_in_nI (by omega) (by omega) | assumption) dX4_evened_54 ?_
      refine lv_topi (fun x54 ex54 => ?_)
      rw [nI_clamp (by omega)] at ex54
      obtain rfl : x54 = nI (wn j) := by exact ex54
      refine lv_aload_n hx hb dX4_evened_55 rfl (lv_at hl 0 rfl) ?_
      refine va_get (D := D) (ci := 5) (v := .ref md_) (C := RX4) (T := TX4) (N := 17) hx hb hts in_X4 hown hK hP 0 rfl rfl 1 (by decide) f_7 (fun _ h9 => h9) rfl dX4_evened_56 ?_
      refine lv_iload_n hx hb dX4_evened_59 rfl (lv_at hl 1 rfl) ?_
      refine va_iald hx hb hK hP (1) 0 rfl rfl (by first | exact vp_in_nI (by omega) (by omega) | assumption) dX4_evened_60 ?_
      refine lv_topi (fun x60 ex60 => ?_)
      rw [nI_clamp (by omega)] at ex60
      obtain rfl : x60 = nI (dn j) := by exact ex60
      refine lv_isub hx hb dX4_evened_61 ?_
      refine lv_topi (fun x61 ex61 => ?_)
      obtain rfl : x61 = nI (wn j - dn j) := by rw [ex61]; exact pk_sub (by omega)
      refine lv_idiv hx hb dX4_evened_62 (nI_ne0 (by omega) (by omega)) ?_
      refine lv_topi (fun x62 ex62 => ?_)
      obtain rfl : x62 = nI (256 * (vn j - dn j) / (wn j - dn j)) := by rw [ex62]; exact pk_div (by omega) (by omega) (by omega)
      refine lv_istore_n (lv' := [(2, .int (nI (256 * (vn j - dn j) / (wn j - dn j)))), (0, .ref m_), (1, .int (nI j))]) hx hb dX4_evened_63 rfl hl (by decide) rfl (fun ls hl => ?_)
      have hql : 256 * (vn j - dn j) / (wn j - dn j) < 2 ^ 31 := Nat.lt_of_le_of_lt (Nat.div_le_self _ _) (by omega)
      refine lv_iload_n hx hb dX4_evened_64 rfl (lv_at hl 0 rfl) ?_
      refine lv_sipush (v := 255) hx hb dX4_evened_65 (by decide) ?_
      refine lv_icmp_le (tgt := 77) hx hb dX4_evened_68 (by decide) (fun c68 => ?_) (fun c68 => ?_)
      · skip
        have c3 : 256 * (vn j - dn j) / (wn j - dn j) ≤ 255 := (nI_leI (b := 255) hql (by omega)).mp c68
        refine lv_iload_n hx hb dX4_evened_77 rfl (lv_at hl 0 rfl) ?_
        subst hQe
        subst hAe
        subst hsz
        exact g_iret hx hb hr hlocks () (by first | exact ev_hi c1 c2 c3 | exact ev_lo c1 c2 c3) hP hK hD hS dX4_evened_78
      · skip
        have c3 : 255 < 256 * (vn j - dn j) / (wn j - dn j) := Nat.not_le.mp (mt (nI_leI (b := 255) hql (by omega)).mpr c68)
        refine lv_sipush (v := 255) hx hb dX4_evened_71 (by decide) ?_
        refine lv_goto (tgt := 78) hx hb dX4_evened_74 (by decide) ?_
        subst hQe
        subst hAe
        subst hsz
        exact g_iret hx hb hr hlocks () (by first | exact ev_hi c1 c2 c3 | exact ev_lo c1 c2 c3) hP hK hD hS dX4_evened_78
    · skip
      have c2 : vn j ≤ dn j := by have := mt (nI_ltI (by omega) (by omega)).mpr c27; omega
      refine lv_iconst (v := 0) hx hb dX4_evened_30 (by decide) ?_
      subst hQe
      subst hAe
      subst hsz
      exact g_iret hx hb hr hlocks () (by first | exact ev_le c1 | exact ev_lv c2) hP hK hD hS dX4_evened_31
abbrev rX4_takeNow : Room := { frames := 1, cells := 0, slots := 0, locals := 22 }
set_option maxHeartbeats 4000000 in
set_option maxRecDepth 100000 in
theorem c_X4_takeNow (l : Launch) (D : va_G) (cI cJ cG : ClassId) (sz : Nat) (R : va_W) (m_ md_ mw_ mv_ mk_ mr_ mo_ mf_ mb_ mx_ mp_ : Nat) (K : Nat) (n : Nat) (dn : Nat → Nat) (wn : Nat → Nat) (vn : Nat → Nat) (tk : Int64) (kn : Nat → Nat) (M : Nat → Nat → Nat) (wo : Nat → Int64) (le : Int64) (kd : Nat → Nat) (px : Nat) (F : Nat → Nat) (fc : Nat) (ft : Nat) (rw : Nat → Nat) (lb : Nat → Nat) (hI : MI K n dn wn vn kn M kd px F fc rw lb) : Met l yX4_takeNow wsX4_takeNow rX4_takeNow (gP D (tyl cI cJ cG) [.ref m_] (mwW cI cJ cG R m_ md_ mw_ mv_ mk_ mr_ mo_ mf_ mb_ mx_ mp_ K n dn wn vn tk kn M wo le kd px F fc ft rw lb) sz) (gQv D (tyl cI cJ cG) (mwW cI cJ cG R m_ md_ mw_ mv_ mk_ mr_ mo_ mf_ mb_ mx_ mp_ K n dn wn vn tk kn M wo le kd px F fc ft rw lb) sz (fun (_ : Unit) => True) (fun _ => (mwW cI cJ cG R m_ md_ mw_ mv_ mk_ mr_ mo_ mf_ mb_ mx_ mp_ K n dn wn vn tk kn M wo le kd px F fc ft (fu (rwN dn wn vn) rw 8) lb))) 0 0 (va_A (mwW cI cJ cG R m_ md_ mw_ mv_ mk_ mr_ mo_ mf_ mb_ mx_ mp_ K n dn wn vn tk kn M wo le kd px F fc ft rw lb) sz) := by
  refine gMet (cc := cX4_takeNow) (maxL := 2) (ret := none) (ls0 := [(0, .ref m_)]) (by decide) rfl (Nat.le_of_ble_eq_true rfl) rfl ?_
  intro p e s m below meth c hx hb hr hts hown hlocks hml hname A hA hAe hsz Q hQe H locs hP hK hD hS ls hl
  have hown : s.vm.findClass RX4 = some m.cls := hown
  have in_X4 : ∀ w ∈ wsX40, w ∈ wsX4_takeNow := by decide +kernel
  have f_39 := hts (.fieldLink RX4 39 "SpectrumHeadsModel" "row" "[I") (by decide +kernel)
  obtain ⟨⟨hK1, hK4⟩, hn, ⟨hdn, hwn, hvn⟩, ⟨hkn, hM⟩, ⟨hkd, hpx, hlb⟩, ⟨hF, hfc⟩, hrw⟩ := id hI
  rw [← fu_0 (g := rwN dn wn vn) (f := rw)] at hP hD
  refine lv_iconst (v := 0) hx hb dX4_takeNow_0 (by decide) ?_
  refine lv_istore_n (lv' := [(1, .int 0), (0, .ref m_)]) hx hb dX4_takeNow_1 rfl hl (by decide) rfl (fun ls hl => ?_)
  have L_2 : ∀ (n_2 : Nat) (i : Nat) (hi : i ≤ 8), 8 - i < n_2 → ∀ (H : Heap) (locs : List Loc) (ls : Array Slot), va_P D vwCl (mwW cI cJ cG R m_ md_ mw_ mv_ mk_ mr_ mo_ mf_ mb_ mx_ mp_ K n dn wn vn tk kn M wo le kd px F fc ft (fu (rwN dn wn vn) rw i) lb) H → va_D A (mwW cI cJ cG R m_ md_ mw_ mv_ mk_ mr_ mo_ mf_ mb_ mx_ mp_ K n dn wn vn tk kn M wo le kd px F fc ft (fu (rwN dn wn vn) rw i) lb) → va_S A s.heap H locs → lv_has ls 2 [(1, .int (nI i)), (0, .ref m_)] → W p l e (headSpec wsX4_takeNow rX4_takeNow).room s m ([.ref m_] : List Value).toArray below meth c H locs 0 0 Q (F0 m 2 ls []) := by
    intro n_2
    induction n_2 with
    | zero => intro i hi hn_; exact absurd hn_ (Nat.not_lt_zero _)
    | succ n_2 ih_2 =>
      intro i hi hn_2 H locs ls hP hD hS hl
      refine lv_iload_n hx hb dX4_takeNow_2 rfl (lv_at hl 0 rfl) ?_
      refine lv_bipush (v := 8) hx hb dX4_takeNow_3 (by decide) ?_
      refine lv_icmp_ge (tgt := 25) hx hb dX4_takeNow_5 (by decide) (fun c5 => ?_) (fun c5 => ?_)
      · skip
        have hE5 := lp_e (n := 8) c5 hi
        subst hE5
        subst hQe
        subst hAe
        subst hsz
        exact g_vret hx hb hr hlocks () trivial hP hK hD hS dX4_takeNow_25
      · skip
        have hi8 := lp_l (n := 8) c5 hi
        refine lv_aload_n hx hb dX4_takeNow_8 rfl (lv_at hl 1 rfl) ?_
        refine va_get (D := D) (ci := 5) (v := .ref mx_) (C := RX4) (T := TX4) (N := 17) hx hb hts in_X4 hown hK hP 0 rfl rfl 15 (by decide) f_39 (fun _ h9 => h9) rfl dX4_takeNow_9 ?_
        refine lv_iload_n hx hb dX4_takeNow_12 rfl (lv_at hl 0 rfl) ?_
        refine lv_aload_n hx hb dX4_takeNow_13 rfl (lv_at hl 1 rfl) ?_
        refine lv_iload_n hx hb dX4_takeNow_14 rfl (lv_at hl 0 rfl) ?_
        refine gc_Vi (As := [.int (nI i)]) (rest := [.int (nI i), .ref mx_]) (ci := 5) (q0 := 0) ⟨hx, hb, hml, hown, hts⟩ (c_X4_evened l D cI cJ cG H.size R m_ md_ mw_ mv_ mk_ mr_ mo_ mf_ mb_ mx_ mp_ K n dn wn vn tk kn M wo le kd px F fc ft (fu (rwN dn wn vn) rw i) lb i hi8 (MI_rw hI (nr_le hrw))) (cwV 1 hts gX4_takeNow_X4_evened rfl rfl rfl (by decide +kernel) ⟨Nat.le_of_ble_eq_true rfl, Nat.le_of_ble_eq_true rfl⟩) rfl rfl rfl hK hP hD hS hA rfl hl.1 rfl (Nat.le_of_ble_eq_true rfl) dX4_takeNow_15 ⟨Nat.le_of_ble_eq_true rfl, Nat.le_of_ble_eq_true rfl⟩ (fun r15 u15 H locs h15 hP hD hS => ?_)
        subst h15
        have hP : va_P D vwCl (mwW cI cJ cG R m_ md_ mw_ mv_ mk_ mr_ mo_ mf_ mb_ mx_ mp_ K n dn wn vn tk kn M wo le kd px F fc ft (fu (rwN dn wn vn) rw i) lb) H := hP
        have hD : va_D A (mwW cI cJ cG R m_ md_ mw_ mv_ mk_ mr_ mo_ mf_ mb_ mx_ mp_ K n dn wn vn tk kn M wo le kd px F fc ft (fu (rwN dn wn vn) rw i) lb) := hD
        refine va_iast hx hb hK hP hD hS 9 0 rfl rfl (by first | exact vp_in_nI (by omega) (by omega) | assumption) dX4_takeNow_18 (fun H locs hP hD hS => ?_)
        rw [nI_clamp (by omega)] at hP hD
        have hP : va_P D vwCl ((m_, .inr (5, [.int (nI K), .ref md_, .ref mw_, .ref mv_, .long tk, .int (nI n), .ref mk_, .ref mr_, .long le, .ref mo_, .int (nI px), .ref mf_, .ref mb_, .int (nI fc), .int (nI ft), .ref mx_, .ref mp_])) :: (md_, .inl (cI, 8, .inl (nf dn))) :: (mw_, .inl (cI, 8, .inl (nf wn))) :: (mv_, .inl (cI, 8, .inl (nf vn))) :: (mk_, .inl (cI, 40, .inl (nf kn))) :: (mr_, .inl (cI, 320, .inl (nf (fM M)))) :: (mo_, .inl (cJ, 4, .inr (.inl wo))) :: (mf_, .inl (cI, 256, .inl (nf kd))) :: (mb_, .inl (cI, 400, .inl (nf F))) :: (mx_, .inl (cI, 8, .inl (upd (nf (fu (rwN dn wn vn) rw i)) i (nI (evN (dn i) (wn i) (vn i)))))) :: (mp_, .inl (cI, 256, .inl (l1 lb))) :: R) H := hP
        have hD : va_D A ((m_, .inr (5, [.int (nI K), .ref md_, .ref mw_, .ref mv_, .long tk, .int (nI n), .ref mk_, .ref mr_, .long le, .ref mo_, .int (nI px), .ref mf_, .ref mb_, .int (nI fc), .int (nI ft), .ref mx_, .ref mp_])) :: (md_, .inl (cI, 8, .inl (nf dn))) :: (mw_, .inl (cI, 8, .inl (nf wn))) :: (mv_, .inl (cI, 8, .inl (nf vn))) :: (mk_, .inl (cI, 40, .inl (nf kn))) :: (mr_, .inl (cI, 320, .inl (nf (fM M)))) :: (mo_, .inl (cJ, 4, .inr (.inl wo))) :: (mf_, .inl (cI, 256, .inl (nf kd))) :: (mb_, .inl (cI, 400, .inl (nf F))) :: (mx_, .inl (cI, 8, .inl (upd (nf (fu (rwN dn wn vn) rw i)) i (nI (evN (dn i) (wn i) (vn i)))))) :: (mp_, .inl (cI, 256, .inl (l1 lb))) :: R) := hD
        have hW_ : upd (nf (fu (rwN dn wn vn) rw i)) i (nI (evN (dn i) (wn i) (vn i))) = nf (fu (rwN dn wn vn) rw (i + 1)) := by rw [nf_upd]; exact congrArg nf fu_s
        rw [hW_] at hP hD
        have hP : va_P D vwCl (mwW cI cJ cG R m_ md_ mw_ mv_ mk_ mr_ mo_ mf_ mb_ mx_ mp_ K n dn wn vn tk kn M wo le kd px F fc ft (fu (rwN dn wn vn) rw (i + 1)) lb) H := hP
        have hD : va_D A (mwW cI cJ cG R m_ md_ mw_ mv_ mk_ mr_ mo_ mf_ mb_ mx_ mp_ K n dn wn vn tk kn M wo le kd px F fc ft (fu (rwN dn wn vn) rw (i + 1)) lb) := hD
        obtain ⟨x19, ex19⟩ : ∃ y : Int32, y = (nI i) + 1 := ⟨_, rfl⟩
        refine lv_iinc (v := x19) (lv' := [(1, .int x19), (0, .ref m_)]) hx hb dX4_takeNow_19 hl (k := 0) rfl (by rw [ex19]; rfl) (by decide) rfl (fun ls hl => ?_)
        obtain rfl : x19 = nI (i + 1) := by rw [ex19]; exact nI_1 _
        refine lv_goto (tgt := 2) hx hb dX4_takeNow_22 (by decide) ?_
        exact ih_2 (i + 1) (by omega) (by omega) H locs ls hP hD hS (lv_sub hl [0, 1] rfl)
  exact L_2 _ 0 (Nat.zero_le _) (Nat.lt_succ_self _) H locs ls hP hD hS (lv_sub hl [0, 1] rfl)
abbrev rX4_takeTaught : Room := { frames := 0, cells := 0, slots := 0, locals := 0 }
set_option maxHeartbeats 4000000 in
set_option maxRecDepth 100000 in
theorem c_X4_takeTaught (l : Launch) (D : va_G) (cI cJ cG : ClassId) (sz : Nat) (R : va_W) (m_ md_ mw_ mv_ mk_ mr_ mo_ mf_ mb_ mx_ mp_ : Nat) (K : Nat) (n : Nat) (dn : Nat → Nat) (wn : Nat → Nat) (vn : Nat → Nat) (tk : Int64) (kn : Nat → Nat) (M : Nat → Nat → Nat) (wo : Nat → Int64) (le : Int64) (kd : Nat → Nat) (px : Nat) (F : Nat → Nat) (fc : Nat) (ft : Nat) (rw : Nat → Nat) (lb : Nat → Nat) (t : Nat) (ht : t < 40) (hI : MI K n dn wn vn kn M kd px F fc rw lb) : Met l yX4_takeTaught wsX4_takeTaught rX4_takeTaught (gP D (tyl cI cJ cG) [.ref m_, .int (nI t)] (mwW cI cJ cG R m_ md_ mw_ mv_ mk_ mr_ mo_ mf_ mb_ mx_ mp_ K n dn wn vn tk kn M wo le kd px F fc ft rw lb) sz) (gQv D (tyl cI cJ cG) (mwW cI cJ cG R m_ md_ mw_ mv_ mk_ mr_ mo_ mf_ mb_ mx_ mp_ K n dn wn vn tk kn M wo le kd px F fc ft rw lb) sz (fun (_ : Unit) => True) (fun _ => (mwW cI cJ cG R m_ md_ mw_ mv_ mk_ mr_ mo_ mf_ mb_ mx_ mp_ K n dn wn vn tk kn M wo le kd px F fc ft (fu (M t) rw 8) lb))) 0 0 (va_A (mwW cI cJ cG R m_ md_ mw_ mv_ mk_ mr_ mo_ mf_ mb_ mx_ mp_ K n dn wn vn tk kn M wo le kd px F fc ft rw lb) sz) := by
  refine gMet (cc := cX4_takeTaught) (maxL := 3) (ret := none) (ls0 := [(0, .ref m_), (1, .int (nI t))]) (by decide) rfl (Nat.le_of_ble_eq_true rfl) rfl ?_
  intro p e s m below meth c hx hb hr hts hown hlocks hml hname A hA hAe hsz Q hQe H locs hP hK hD hS ls hl
  have hown : s.vm.findClass RX4 = some m.cls := hown
  have in_X4 : ∀ w ∈ wsX40, w ∈ wsX4_takeTaught := by decide +kernel
  have f_39 := hts (.fieldLink RX4 39 "SpectrumHeadsModel" "row" "[I") (by decide +kernel)
  have f_22 := hts (.fieldLink RX4 22 "SpectrumHeadsModel" "taughtRow" "[I") (by decide +kernel)
  obtain ⟨⟨hK1, hK4⟩, hn, ⟨hdn, hwn, hvn⟩, ⟨hkn, hM⟩, ⟨hkd, hpx, hlb⟩, ⟨hF, hfc⟩, hrw⟩ := id hI
  rw [← fu_0 (g := M t) (f := rw)] at hP hD
  refine lv_iconst (v := 0) hx hb dX4_takeTaught_0 (by decide) ?_
  refine lv_istore_n (lv' := [(2, .int 0), (0, .ref m_), (1, .int (nI t))]) hx hb dX4_takeTaught_1 rfl hl (by decide) rfl (fun ls hl => ?_)
  have L_2 : ∀ (n_2 : Nat) (i : Nat) (hi : i ≤ 8), 8 - i < n_2 → ∀ (H : Heap) (locs : List Loc) (ls : Array Slot), va_P D vwCl (mwW cI cJ cG R m_ md_ mw_ mv_ mk_ mr_ mo_ mf_ mb_ mx_ mp_ K n dn wn vn tk kn M wo le kd px F fc ft (fu (M t) rw i) lb) H → va_D A (mwW cI cJ cG R m_ md_ mw_ mv_ mk_ mr_ mo_ mf_ mb_ mx_ mp_ K n dn wn vn tk kn M wo le kd px F fc ft (fu (M t) rw i) lb) → va_S A s.heap H locs → lv_has ls 3 [(2, .int (nI i)), (0, .ref m_), (1, .int (nI t))] → W p l e (headSpec wsX4_takeTaught rX4_takeTaught).room s m ([.ref m_, .int (nI t)] : List Value).toArray below meth c H locs 0 0 Q (F0 m 2 ls []) := by
    intro n_2
    induction n_2 with
    | zero => intro i hi hn_; exact absurd hn_ (Nat.not_lt_zero _)
    | succ n_2 ih_2 =>
      intro i hi hn_2 H locs ls hP hD hS hl
      refine lv_iload_n hx hb dX4_takeTaught_2 rfl (lv_at hl 0 rfl) ?_
      refine lv_bipush (v := 8) hx hb dX4_takeTaught_3 (by decide) ?_
      refine lv_icmp_ge (tgt := 31) hx hb dX4_takeTaught_5 (by decide) (fun c5 => ?_) (fun c5 => ?_)
      · skip
        have hE5 := lp_e (n := 8) c5 hi
        subst hE5
        subst hQe
        subst hAe
        subst hsz
        exact g_vret hx hb hr hlocks () trivial hP hK hD hS dX4_takeTaught_31
      · skip
        have hi8 := lp_l (n := 8) c5 hi
        refine lv_aload_n hx hb dX4_takeTaught_8 rfl (lv_at hl 1 rfl) ?_
        refine va_get (D := D) (ci := 5) (v := .ref mx_) (C := RX4) (T := TX4) (N := 17) hx hb hts in_X4 hown hK hP 0 rfl rfl 15 (by decide) f_39 (fun _ h9 => h9) rfl dX4_takeTaught_9 ?_
        refine lv_iload_n hx hb dX4_takeTaught_12 rfl (lv_at hl 0 rfl) ?_
        refine lv_aload_n hx hb dX4_takeTaught_13 rfl (lv_at hl 1 rfl) ?_
        refine va_get (D := D) (ci := 5) (v := .ref mr_) (C := RX4) (T := TX4) (N := 17) hx hb hts in_X4 hown hK hP 0 rfl rfl 7 (by decide) f_22 (fun _ h9 => h9) rfl dX4_takeTaught_14 ?_
        refine lv_bipush (v := 8) hx hb dX4_takeTaught_17 (by decide) ?_
        refine lv_iload_n hx hb dX4_takeTaught_19 rfl (lv_at hl 2 rfl) ?_
        refine lv_imul hx hb dX4_takeTaught_20 ?_
        refine lv_topi (fun x20 ex20 => ?_)
        obtain rfl : x20 = nI (8 * t) := by rw [ex20]; exact pk_mul 8 _
        refine lv_iload_n hx hb dX4_takeTaught_21 rfl (lv_at hl 0 rfl) ?_
        refine lv_iadd hx hb dX4_takeTaught_22 ?_
        refine lv_topi (fun x22 ex22 => ?_)
        obtain rfl : x22 = nI (8 * t + i) := by rw [ex22]; exact nI_add _ _
        refine va_iald hx hb hK hP (5) 0 rfl rfl (by first | exact vp_in_nI (by omega) (by omega) | assumption) dX4_takeTaught_23 ?_
        refine lv_topi (fun x23 ex23 => ?_)
        rw [nI_clamp (by omega)] at ex23
        obtain rfl : x23 = nI (M t i) := by rw [ex23]; exact congrArg nI (fM_at hi8)
        refine va_iast hx hb hK hP hD hS 9 0 rfl rfl (by first | exact vp_in_nI (by omega) (by omega) | assumption) dX4_takeTaught_24 (fun H locs hP hD hS => ?_)
        rw [nI_clamp (by omega)] at hP hD
        have hP : va_P D vwCl ((m_, .inr (5, [.int (nI K), .ref md_, .ref mw_, .ref mv_, .long tk, .int (nI n), .ref mk_, .ref mr_, .long le, .ref mo_, .int (nI px), .ref mf_, .ref mb_, .int (nI fc), .int (nI ft), .ref mx_, .ref mp_])) :: (md_, .inl (cI, 8, .inl (nf dn))) :: (mw_, .inl (cI, 8, .inl (nf wn))) :: (mv_, .inl (cI, 8, .inl (nf vn))) :: (mk_, .inl (cI, 40, .inl (nf kn))) :: (mr_, .inl (cI, 320, .inl (nf (fM M)))) :: (mo_, .inl (cJ, 4, .inr (.inl wo))) :: (mf_, .inl (cI, 256, .inl (nf kd))) :: (mb_, .inl (cI, 400, .inl (nf F))) :: (mx_, .inl (cI, 8, .inl (upd (nf (fu (M t) rw i)) i (nI (M t i))))) :: (mp_, .inl (cI, 256, .inl (l1 lb))) :: R) H := hP
        have hD : va_D A ((m_, .inr (5, [.int (nI K), .ref md_, .ref mw_, .ref mv_, .long tk, .int (nI n), .ref mk_, .ref mr_, .long le, .ref mo_, .int (nI px), .ref mf_, .ref mb_, .int (nI fc), .int (nI ft), .ref mx_, .ref mp_])) :: (md_, .inl (cI, 8, .inl (nf dn))) :: (mw_, .inl (cI, 8, .inl (nf wn))) :: (mv_, .inl (cI, 8, .inl (nf vn))) :: (mk_, .inl (cI, 40, .inl (nf kn))) :: (mr_, .inl (cI, 320, .inl (nf (fM M)))) :: (mo_, .inl (cJ, 4, .inr (.inl wo))) :: (mf_, .inl (cI, 256, .inl (nf kd))) :: (mb_, .inl (cI, 400, .inl (nf F))) :: (mx_, .inl (cI, 8, .inl (upd (nf (fu (M t) rw i)) i (nI (M t i))))) :: (mp_, .inl (cI, 256, .inl (l1 lb))) :: R) := hD
        have hW_ : upd (nf (fu (M t) rw i)) i (nI (M t i)) = nf (fu (M t) rw (i + 1)) := by rw [nf_upd]; exact congrArg nf fu_s
        rw [hW_] at hP hD
        have hP : va_P D vwCl (mwW cI cJ cG R m_ md_ mw_ mv_ mk_ mr_ mo_ mf_ mb_ mx_ mp_ K n dn wn vn tk kn M wo le kd px F fc ft (fu (M t) rw (i + 1)) lb) H := hP
        have hD : va_D A (mwW cI cJ cG R m_ md_ mw_ mv_ mk_ mr_ mo_ mf_ mb_ mx_ mp_ K n dn wn vn tk kn M wo le kd px F fc ft (fu (M t) rw (i + 1)) lb) := hD
        obtain ⟨x25, ex25⟩ : ∃ y : Int32, y = (nI i) + 1 := ⟨_, rfl⟩
        refine lv_iinc (v := x25) (lv' := [(2, .int x25), (0, .ref m_), (1, .int (nI t))]) hx hb dX4_takeTaught_25 hl (k := 0) rfl (by rw [ex25]; rfl) (by decide) rfl (fun ls hl => ?_)
        obtain rfl : x25 = nI (i + 1) := by rw [ex25]; exact nI_1 _
        refine lv_goto (tgt := 2) hx hb dX4_takeTaught_28 (by decide) ?_
        exact ih_2 (i + 1) (by omega) (by omega) H locs ls hP hD hS (lv_sub hl [0, 1, 2] rfl)
  exact L_2 _ 0 (Nat.zero_le _) (Nat.lt_succ_self _) H locs ls hP hD hS (lv_sub hl [0, 1, 2] rfl)
abbrev rX4_sumOf : Room := { frames := 0, cells := 0, slots := 0, locals := 0 }
set_option maxHeartbeats 4000000 in
set_option maxRecDepth 100000 in
theorem c_X4_sumOf (l : Launch) (D : va_G) (cI cJ cG : ClassId) (sz : Nat) (R : va_W) (m_ md_ mw_ mv_ mk_ mr_ mo_ mf_ mb_ mx_ mp_ : Nat) (K : Nat) (n : Nat) (dn : Nat → Nat) (wn : Nat → Nat) (vn : Nat → Nat) (tk : Int64) (kn : Nat → Nat) (M : Nat → Nat → Nat) (wo : Nat → Int64) (le : Int64) (kd : Nat → Nat) (px : Nat) (F : Nat → Nat) (fc : Nat) (ft : Nat) (rw : Nat → Nat) (lb : Nat → Nat) (q : Nat) (w : Int32) (hq : q ≤ 255) (hI : MI K n dn wn vn kn M kd px F fc rw lb) : Met l yX4_sumOf wsX4_sumOf rX4_sumOf (gP D (tyl cI cJ cG) [.ref m_, .int (nI q), .int w] (mwW cI cJ cG R m_ md_ mw_ mv_ mk_ mr_ mo_ mf_ mb_ mx_ mp_ K n dn wn vn tk kn M wo le kd px F fc ft rw lb) sz) (gQl D (tyl cI cJ cG) (mwW cI cJ cG R m_ md_ mw_ mv_ mk_ mr_ mo_ mf_ mb_ mx_ mp_ K n dn wn vn tk kn M wo le kd px F fc ft rw lb) sz (fun r (_ : Unit) => r = lN (SUM kn (CM M) (ceN rw) q w n)) (fun _ => (mwW cI cJ cG R m_ md_ mw_ mv_ mk_ mr_ mo_ mf_ mb_ mx_ mp_ K n dn wn vn tk kn M wo le kd px F fc ft rw lb))) 0 0 (va_A (mwW cI cJ cG R m_ md_ mw_ mv_ mk_ mr_ mo_ mf_ mb_ mx_ mp_ K n dn wn vn tk kn M wo le kd px F fc ft rw lb) sz) := by
  refine gMet (cc := cX4_sumOf) (maxL := 11) (ret := (some .long)) (ls0 := [(0, .ref m_), (1, .int (nI q)), (2, .int w)]) (by decide) rfl (Nat.le_of_ble_eq_true rfl) rfl ?_
  intro p e s m below meth c hx hb hr hts hown hlocks hml hname A hA hAe hsz Q hQe H locs hP hK hD hS ls hl
  have hown : s.vm.findClass RX4 = some m.cls := hown
  have in_X4 : ∀ w ∈ wsX40, w ∈ wsX4_sumOf := by decide +kernel
  have f_39 := hts (.fieldLink RX4 39 "SpectrumHeadsModel" "row" "[I") (by decide +kernel)
  have f_66 := hts (.fieldLink RX4 66 "SpectrumHeadsModel" "taught" "I") (by decide +kernel)
  have f_19 := hts (.fieldLink RX4 19 "SpectrumHeadsModel" "taughtKind" "[I") (by decide +kernel)
  have f_22 := hts (.fieldLink RX4 22 "SpectrumHeadsModel" "taughtRow" "[I") (by decide +kernel)
  obtain ⟨⟨hK1, hK4⟩, hn, ⟨hdn, hwn, hvn⟩, ⟨hkn, hM⟩, ⟨hkd, hpx, hlb⟩, ⟨hF, hfc⟩, hrw⟩ := id hI
  refine lv_lconst (v := 0) hx hb dX4_sumOf_0 (by decide) ?_
  refine lv_lstore_n (lv' := [(3, .long 0), (0, .ref m_), (1, .int (nI q)), (2, .int w)]) hx hb dX4_sumOf_1 rfl hl (by decide) rfl (fun ls hl => ?_)
  refine lv_iconst (v := 0) hx hb dX4_sumOf_2 (by decide) ?_
  refine lv_istore (lv' := [(5, .int 0), (3, .long 0), (0, .ref m_), (1, .int (nI q)), (2, .int w)]) hx hb dX4_sumOf_3 hl (by decide) rfl (fun ls hl => ?_)
  have L_5 : ∀ (n_5 : Nat) (k : Nat) (hk : k ≤ 7), 7 - k < n_5 → ∀ (H : Heap) (locs : List Loc) (ls : Array Slot), va_P D vwCl (mwW cI cJ cG R m_ md_ mw_ mv_ mk_ mr_ mo_ mf_ mb_ mx_ mp_ K n dn wn vn tk kn M wo le kd px F fc ft rw lb) H → va_D A (mwW cI cJ cG R m_ md_ mw_ mv_ mk_ mr_ mo_ mf_ mb_ mx_ mp_ K n dn wn vn tk kn M wo le kd px F fc ft rw lb) → va_S A s.heap H locs → lv_has ls 11 [(5, .int (nI k)), (3, .long (lN (sumK kn (CM M) (ceN rw) q w n k))), (0, .ref m_), (1, .int (nI q)), (2, .int w)] → W p l e (headSpec wsX4_sumOf rX4_sumOf).room s m ([.ref m_, .int (nI q), .int w] : List Value).toArray below meth c H locs 0 0 Q (F0 m 5 ls []) := by
    intro n_5
    induction n_5 with
    | zero => intro k hk hn_; exact absurd hn_ (Nat.not_lt_zero _)
    | succ n_5 ih_5 =>
      intro k hk hn_5 H locs ls hP hD hS hl
      refine lv_iload hx hb dX4_sumOf_5 (lv_at hl 0 rfl) ?_
      refine lv_bipush (v := 7) hx hb dX4_sumOf_7 (by decide) ?_
      refine lv_icmp_ge (tgt := 165) hx hb dX4_sumOf_9 (by decide) (fun c9 => ?_) (fun c9 => ?_)
      · skip
        have hE9 := lp_e (n := 7) c9 hk
        subst hE9
        refine lv_lload_n hx hb dX4_sumOf_165 rfl (lv_at hl 1 rfl) ?_
        subst hQe
        subst hAe
        subst hsz
        exact g_lret hx hb hr hlocks () rfl hP hK hD hS dX4_sumOf_166
      · skip
        have hk8 := lp_l (n := 7) c9 hk
        have hr0 := hrw k
        have hr1 := hrw (k + 1)
        have hcl := ceN_lt hrw k
        refine lv_aload_n hx hb dX4_sumOf_12 rfl (lv_at hl 2 rfl) ?_
        refine va_get (D := D) (ci := 5) (v := .ref mx_) (C := RX4) (T := TX4) (N := 17) hx hb hts in_X4 hown hK hP 0 rfl rfl 15 (by decide) f_39 (fun _ h9 => h9) rfl dX4_sumOf_13 ?_
        refine lv_iload hx hb dX4_sumOf_16 (lv_at hl 0 rfl) ?_
        refine lv_iconst (v := 1) hx hb dX4_sumOf_18 (by decide) ?_
        refine lv_iadd hx hb dX4_sumOf_19 ?_
        refine lv_topi (fun x19 ex19 => ?_)
        obtain rfl : x19 = nI (k + 1) := by rw [ex19]; exact nI_1 _
        refine va_iald hx hb hK hP (9) 0 rfl rfl (by first | exact vp_in_nI (by omega) (by omega) | assumption) dX4_sumOf_20 ?_
        refine lv_topi (fun x20 ex20 => ?_)
        rw [nI_clamp (by omega)] at ex20
        obtain rfl : x20 = nI (rw (k + 1)) := by exact ex20
        refine lv_aload_n hx hb dX4_sumOf_21 rfl (lv_at hl 2 rfl) ?_
        refine va_get (D := D) (ci := 5) (v := .ref mx_) (C := RX4) (T := TX4) (N := 17) hx hb hts in_X4 hown hK hP 0 rfl rfl 15 (by decide) f_39 (fun _ h9 => h9) rfl dX4_sumOf_22 ?_
        refine lv_iload hx hb dX4_sumOf_25 (lv_at hl 0 rfl) ?_
        refine va_iald hx hb hK hP (9) 0 rfl rfl (by first | exact vp_in_nI (by omega) (by omega) | assumption) dX4_sumOf_27 ?_
        refine lv_topi (fun x27 ex27 => ?_)
        rw [nI_clamp (by omega)] at ex27
        obtain rfl : x27 = nI (rw k) := by exact ex27
        refine lv_isub hx hb dX4_sumOf_28 ?_
        refine lv_topi (fun x28 ex28 => ?_)
        refine lv_sipush (v := 256) hx hb dX4_sumOf_29 (by decide) ?_
        refine lv_iadd hx hb dX4_sumOf_32 ?_
        refine lv_topi (fun x32 ex32 => ?_)
        obtain rfl : x32 = nI (rw (k + 1) + 256 - rw k) := by rw [ex32, ex28]; exact ce_num hr0
        refine lv_bipush (v := 64) hx hb dX4_sumOf_33 (by decide) ?_
        refine lv_idiv hx hb dX4_sumOf_35 (by decide) ?_
        refine lv_topi (fun x35 ex35 => ?_)
        obtain rfl : x35 = nI (ceN rw k) := by rw [ex35]; exact pk_div (a := rw (k + 1) + 256 - rw k) (d := 64) (by omega) (by omega) (by omega)
        refine lv_istore (lv' := [(6, .int (nI (ceN rw k))), (5, .int (nI k)), (3, .long (lN (sumK kn (CM M) (ceN rw) q w n k))), (0, .ref m_), (1, .int (nI q)), (2, .int w)]) hx hb dX4_sumOf_36 hl (by decide) rfl (fun ls hl => ?_)
        refine lv_iconst (v := 0) hx hb dX4_sumOf_38 (by decide) ?_
        refine lv_istore (lv' := [(7, .int 0), (6, .int (nI (ceN rw k))), (5, .int (nI k)), (3, .long (lN (sumK kn (CM M) (ceN rw) q w n k))), (0, .ref m_), (1, .int (nI q)), (2, .int w)]) hx hb dX4_sumOf_39 hl (by decide) rfl (fun ls hl => ?_)
        refine lv_iconst (v := 0) hx hb dX4_sumOf_41 (by decide) ?_
        refine lv_istore (lv' := [(8, .int 0), (7, .int 0), (6, .int (nI (ceN rw k))), (5, .int (nI k)), (3, .long (lN (sumK kn (CM M) (ceN rw) q w n k))), (0, .ref m_), (1, .int (nI q)), (2, .int w)]) hx hb dX4_sumOf_42 hl (by decide) rfl (fun ls hl => ?_)
        refine lv_iconst (v := 0) hx hb dX4_sumOf_44 (by decide) ?_
        refine lv_istore (lv' := [(9, .int 0), (8, .int 0), (7, .int 0), (6, .int (nI (ceN rw k))), (5, .int (nI k)), (3, .long (lN (sumK kn (CM M) (ceN rw) q w n k))), (0, .ref m_), (1, .int (nI q)), (2, .int w)]) hx hb dX4_sumOf_45 hl (by decide) rfl (fun ls hl => ?_)
        have L_47 : ∀ (n_47 : Nat) (t : Nat) (ht : t ≤ n), n - t < n_47 → ∀ (H : Heap) (locs : List Loc) (ls : Array Slot), va_P D vwCl (mwW cI cJ cG R m_ md_ mw_ mv_ mk_ mr_ mo_ mf_ mb_ mx_ mp_ K n dn wn vn tk kn M wo le kd px F fc ft rw lb) H → va_D A (mwW cI cJ cG R m_ md_ mw_ mv_ mk_ mr_ mo_ mf_ mb_ mx_ mp_ K n dn wn vn tk kn M wo le kd px F fc ft rw lb) → va_S A s.heap H locs → lv_has ls 11 [(9, .int (nI t)), (8, .int (nI (cnt (okR kn q w) t))), (7, .int (nI (cnt (samR kn (CM M) (ceN rw) q w k) t))), (6, .int (nI (ceN rw k))), (5, .int (nI k)), (3, .long (lN (sumK kn (CM M) (ceN rw) q w n k))), (0, .ref m_), (1, .int (nI q)), (2, .int w)] → W p l e (headSpec wsX4_sumOf rX4_sumOf).room s m ([.ref m_, .int (nI q), .int w] : List Value).toArray below meth c H locs 0 0 Q (F0 m 47 ls []) := by
          intro n_47
          induction n_47 with
          | zero => intro t ht hn_; exact absurd hn_ (Nat.not_lt_zero _)
          | succ n_47 ih_47 =>
            intro t ht hn_47 H locs ls hP hD hS hl
            refine lv_iload hx hb dX4_sumOf_47 (lv_at hl 0 rfl) ?_
            refine lv_aload_n hx hb dX4_sumOf_49 rfl (lv_at hl 6 rfl) ?_
            refine va_get (D := D) (ci := 5) (v := .int (nI n)) (C := RX4) (T := TX4) (N := 17) hx hb hts in_X4 hown hK hP 0 rfl rfl 5 (by decide) f_66 (fun _ h9 => h9) rfl dX4_sumOf_50 ?_
            refine lv_icmp_ge (tgt := 137) hx hb dX4_sumOf_53 (by decide) (fun c53 => ?_) (fun c53 => ?_)
            · skip
              have hE53 := lp_e (n := n) c53 ht
              subst hE53
              have hol : cnt (okR kn q w) n ≤ n := cnt_le _ _
              have hsl : cnt (samR kn (CM M) (ceN rw) q w k) n ≤ n := cnt_le _ _
              refine lv_lload_n hx hb dX4_sumOf_137 rfl (lv_at hl 5 rfl) ?_
              refine lv_iload hx hb dX4_sumOf_138 (lv_at hl 1 rfl) ?_
              refine lv_if_le (tgt := 156) hx hb dX4_sumOf_140 (by decide) (fun c140 => ?_) (fun c140 => ?_)
              · skip
                have hof : cnt (okR kn q w) n = 0 := by have := (nI_leI (b := 0) (by omega) (by omega)).mp c140; omega
                refine lv_lconst (v := 0) hx hb dX4_sumOf_156 (by decide) ?_
                refine lv_ladd hx hb dX4_sumOf_157 ?_
                refine lv_topl (fun x157 ex157 => ?_)
                obtain rfl : x157 = lN (sumK kn (CM M) (ceN rw) q w n (k + 1)) := by rw [ex157]; first | exact (lN_add _ _).trans (congrArg lN (sumK_s hof)) | exact (lN_add _ 0).trans (congrArg lN (sumK_0 hof))
                refine lv_lstore_n (lv' := [(3, .long (lN (sumK kn (CM M) (ceN rw) q w n (k + 1)))), (9, .int (nI n)), (8, .int (nI (cnt (okR kn q w) n))), (7, .int (nI (cnt (samR kn (CM M) (ceN rw) q w k) n))), (6, .int (nI (ceN rw k))), (5, .int (nI k)), (0, .ref m_), (1, .int (nI q)), (2, .int w)]) hx hb dX4_sumOf_158 rfl hl (by decide) rfl (fun ls hl => ?_)
                obtain ⟨x159, ex159⟩ : ∃ y : Int32, y = (nI k) + 1 := ⟨_, rfl⟩
                refine lv_iinc (v := x159) (lv' := [(5, .int x159), (3, .long (lN (sumK kn (CM M) (ceN rw) q w n (k + 1)))), (9, .int (nI n)), (8, .int (nI (cnt (okR kn q w) n))), (7, .int (nI (cnt (samR kn (CM M) (ceN rw) q w k) n))), (6, .int (nI (ceN rw k))), (0, .ref m_), (1, .int (nI q)), (2, .int w)]) hx hb dX4_sumOf_159 hl (k := 5) rfl (by rw [ex159]; rfl) (by decide) rfl (fun ls hl => ?_)
                obtain rfl : x159 = nI (k + 1) := by rw [ex159]; exact nI_1 _
                refine lv_goto (tgt := 5) hx hb dX4_sumOf_162 (by decide) ?_
                exact ih_5 (k + 1) (by omega) (by omega) H locs ls hP hD hS (lv_sub hl [0, 1, 6, 7, 8] rfl)
              · skip
                have hof : ¬ cnt (okR kn q w) n = 0 := fun h => c140 (by rw [h]; decide)
                refine lv_sipush (v := 1000) hx hb dX4_sumOf_143 (by decide) ?_
                refine lv_iload hx hb dX4_sumOf_146 (lv_at hl 2 rfl) ?_
                refine lv_imul hx hb dX4_sumOf_148 ?_
                refine lv_topi (fun x148 ex148 => ?_)
                obtain rfl : x148 = nI (cnt (samR kn (CM M) (ceN rw) q w k) n * 1000) := by rw [ex148, Nat.mul_comm]; exact pk_mul 1000 _
                refine lv_iload hx hb dX4_sumOf_149 (lv_at hl 1 rfl) ?_
                refine lv_idiv hx hb dX4_sumOf_151 (nI_ne0 (by omega) (by omega)) ?_
                refine lv_topi (fun x151 ex151 => ?_)
                obtain rfl : x151 = nI (cnt (samR kn (CM M) (ceN rw) q w k) n * 1000 / cnt (okR kn q w) n) := by rw [ex151]; exact pk_div (by omega) (by omega) (by omega)
                refine lv_i2l hx hb dX4_sumOf_152 rfl ?_
                refine lv_topl (fun x152 ex152 => ?_)
                obtain rfl : x152 = lN (cnt (samR kn (CM M) (ceN rw) q w k) n * 1000 / cnt (okR kn q w) n) := by rw [ex152]; exact nI_l (Nat.lt_of_le_of_lt (Nat.div_le_self _ _) (by omega))
                refine lv_goto (tgt := 157) hx hb dX4_sumOf_153 (by decide) ?_
                refine lv_ladd hx hb dX4_sumOf_157 ?_
                refine lv_topl (fun x157 ex157 => ?_)
                obtain rfl : x157 = lN (sumK kn (CM M) (ceN rw) q w n (k + 1)) := by rw [ex157]; first | exact (lN_add _ _).trans (congrArg lN (sumK_s hof)) | exact (lN_add _ 0).trans (congrArg lN (sumK_0 hof))
                refine lv_lstore_n (lv' := [(3, .long (lN (sumK kn (CM M) (ceN rw) q w n (k + 1)))), (9, .int (nI n)), (8, .int (nI (cnt (okR kn q w) n))), (7, .int (nI (cnt (samR kn (CM M) (ceN rw) q w k) n))), (6, .int (nI (ceN rw k))), (5, .int (nI k)), (0, .ref m_), (1, .int (nI q)), (2, .int w)]) hx hb dX4_sumOf_158 rfl hl (by decide) rfl (fun ls hl => ?_)
                obtain ⟨x159, ex159⟩ : ∃ y : Int32, y = (nI k) + 1 := ⟨_, rfl⟩
                refine lv_iinc (v := x159) (lv' := [(5, .int x159), (3, .long (lN (sumK kn (CM M) (ceN rw) q w n (k + 1)))), (9, .int (nI n)), (8, .int (nI (cnt (okR kn q w) n))), (7, .int (nI (cnt (samR kn (CM M) (ceN rw) q w k) n))), (6, .int (nI (ceN rw k))), (0, .ref m_), (1, .int (nI q)), (2, .int w)]) hx hb dX4_sumOf_159 hl (k := 5) rfl (by rw [ex159]; rfl) (by decide) rfl (fun ls hl => ?_)
                obtain rfl : x159 = nI (k + 1) := by rw [ex159]; exact nI_1 _
                refine lv_goto (tgt := 5) hx hb dX4_sumOf_162 (by decide) ?_
                exact ih_5 (k + 1) (by omega) (by omega) H locs ls hP hD hS (lv_sub hl [0, 1, 6, 7, 8] rfl)
            · skip
              have ht8 := lp_l (n := n) c53 ht
              have hm0 := hM t k
              have hm1 := hM t (k + 1)
              have hkt := hkn t
              have hcm := ceN_lt (hM t) k
              refine lv_iload hx hb dX4_sumOf_56 (lv_at hl 0 rfl) ?_
              refine lv_iload_n hx hb dX4_sumOf_58 rfl (lv_at hl 8 rfl) ?_
              refine lv_icmp_eq (tgt := 131) hx hb dX4_sumOf_59 (by decide) (fun c59 => ?_) (fun c59 => ?_)
              · skip
                have hok : okR kn q w t = false := okR_f2 c59
                rw [cnt_n hok, cnt_n (sam_g (C := CM M) (fc := ceN rw) (k := k) hok)] at hl
                obtain ⟨x131, ex131⟩ : ∃ y : Int32, y = (nI t) + 1 := ⟨_, rfl⟩
                refine lv_iinc (v := x131) (lv' := [(9, .int x131), (8, .int (nI (cnt (okR kn q w) (t + 1)))), (7, .int (nI (cnt (samR kn (CM M) (ceN rw) q w k) (t + 1)))), (6, .int (nI (ceN rw k))), (5, .int (nI k)), (3, .long (lN (sumK kn (CM M) (ceN rw) q w n k))), (0, .ref m_), (1, .int (nI q)), (2, .int w)]) hx hb dX4_sumOf_131 hl (k := 0) rfl (by rw [ex131]; rfl) (by decide) rfl (fun ls hl => ?_)
                obtain rfl : x131 = nI (t + 1) := by rw [ex131]; exact nI_1 _
                refine lv_goto (tgt := 47) hx hb dX4_sumOf_134 (by decide) ?_
                exact ih_47 (t + 1) (by omega) (by omega) H locs ls hP hD hS (lv_sub hl [0, 1, 2, 3, 4, 5, 6, 7, 8] rfl)
              · skip
                refine lv_aload_n hx hb dX4_sumOf_62 rfl (lv_at hl 6 rfl) ?_
                refine va_get (D := D) (ci := 5) (v := .ref mk_) (C := RX4) (T := TX4) (N := 17) hx hb hts in_X4 hown hK hP 0 rfl rfl 6 (by decide) f_19 (fun _ h9 => h9) rfl dX4_sumOf_63 ?_
                refine lv_iload hx hb dX4_sumOf_66 (lv_at hl 0 rfl) ?_
                refine va_iald hx hb hK hP (4) 0 rfl rfl (by first | exact vp_in_nI (by omega) (by omega) | assumption) dX4_sumOf_68 ?_
                refine lv_topi (fun x68 ex68 => ?_)
                rw [nI_clamp (by omega)] at ex68
                obtain rfl : x68 = nI (kn t) := by exact ex68
                refine lv_iload_n hx hb dX4_sumOf_69 rfl (lv_at hl 7 rfl) ?_
                refine lv_icmp_ne (tgt := 131) hx hb dX4_sumOf_70 (by decide) (fun c70 => ?_) (fun c70 => ?_)
                · skip
                  have hok : okR kn q w t = false := okR_f1 (fun h => c70 (by rw [h]))
                  rw [cnt_n hok, cnt_n (sam_g (C := CM M) (fc := ceN rw) (k := k) hok)] at hl
                  obtain ⟨x131, ex131⟩ : ∃ y : Int32, y = (nI t) + 1 := ⟨_, rfl⟩
                  refine lv_iinc (v := x131) (lv' := [(9, .int x131), (8, .int (nI (cnt (okR kn q w) (t + 1)))), (7, .int (nI (cnt (samR kn (CM M) (ceN rw) q w k) (t + 1)))), (6, .int (nI (ceN rw k))), (5, .int (nI k)), (3, .long (lN (sumK kn (CM M) (ceN rw) q w n k))), (0, .ref m_), (1, .int (nI q)), (2, .int w)]) hx hb dX4_sumOf_131 hl (k := 0) rfl (by rw [ex131]; rfl) (by decide) rfl (fun ls hl => ?_)
                  obtain rfl : x131 = nI (t + 1) := by rw [ex131]; exact nI_1 _
                  refine lv_goto (tgt := 47) hx hb dX4_sumOf_134 (by decide) ?_
                  exact ih_47 (t + 1) (by omega) (by omega) H locs ls hP hD hS (lv_sub hl [0, 1, 2, 3, 4, 5, 6, 7, 8] rfl)
                · skip
                  have hok : okR kn q w t = true := okR_t ((nI_eq (by omega) (by omega)).mp c70) c59
                  refine lv_aload_n hx hb dX4_sumOf_73 rfl (lv_at hl 6 rfl) ?_
                  refine va_get (D := D) (ci := 5) (v := .ref mr_) (C := RX4) (T := TX4) (N := 17) hx hb hts in_X4 hown hK hP 0 rfl rfl 7 (by decide) f_22 (fun _ h9 => h9) rfl dX4_sumOf_74 ?_
                  refine lv_bipush (v := 8) hx hb dX4_sumOf_77 (by decide) ?_
                  refine lv_iload hx hb dX4_sumOf_79 (lv_at hl 0 rfl) ?_
                  refine lv_imul hx hb dX4_sumOf_81 ?_
                  refine lv_topi (fun x81 ex81 => ?_)
                  obtain rfl : x81 = nI (8 * t) := by rw [ex81]; exact pk_mul 8 _
                  refine lv_iload hx hb dX4_sumOf_82 (lv_at hl 4 rfl) ?_
                  refine lv_iadd hx hb dX4_sumOf_84 ?_
                  refine lv_topi (fun x84 ex84 => ?_)
                  obtain rfl : x84 = nI (8 * t + k) := by rw [ex84]; exact nI_add _ _
                  refine lv_iconst (v := 1) hx hb dX4_sumOf_85 (by decide) ?_
                  refine lv_iadd hx hb dX4_sumOf_86 ?_
                  refine lv_topi (fun x86 ex86 => ?_)
                  obtain rfl : x86 = nI (8 * t + (k + 1)) := by rw [ex86, nI_1]; rfl
                  refine va_iald hx hb hK hP (5) 0 rfl rfl (by first | exact vp_in_nI (by omega) (by omega) | assumption) dX4_sumOf_87 ?_
                  refine lv_topi (fun x87 ex87 => ?_)
                  rw [nI_clamp (by omega)] at ex87
                  obtain rfl : x87 = nI (M t (k + 1)) := by rw [ex87]; exact congrArg nI (fM_at (by omega))
                  refine lv_aload_n hx hb dX4_sumOf_88 rfl (lv_at hl 6 rfl) ?_
                  refine va_get (D := D) (ci := 5) (v := .ref mr_) (C := RX4) (T := TX4) (N := 17) hx hb hts in_X4 hown hK hP 0 rfl rfl 7 (by decide) f_22 (fun _ h9 => h9) rfl dX4_sumOf_89 ?_
                  refine lv_bipush (v := 8) hx hb dX4_sumOf_92 (by decide) ?_
                  refine lv_iload hx hb dX4_sumOf_94 (lv_at hl 0 rfl) ?_
                  refine lv_imul hx hb dX4_sumOf_96 ?_
                  refine lv_topi (fun x96 ex96 => ?_)
                  obtain rfl : x96 = nI (8 * t) := by rw [ex96]; exact pk_mul 8 _
                  refine lv_iload hx hb dX4_sumOf_97 (lv_at hl 4 rfl) ?_
                  refine lv_iadd hx hb dX4_sumOf_99 ?_
                  refine lv_topi (fun x99 ex99 => ?_)
                  obtain rfl : x99 = nI (8 * t + k) := by rw [ex99]; exact nI_add _ _
                  refine va_iald hx hb hK hP (5) 0 rfl rfl (by first | exact vp_in_nI (by omega) (by omega) | assumption) dX4_sumOf_100 ?_
                  refine lv_topi (fun x100 ex100 => ?_)
                  rw [nI_clamp (by omega)] at ex100
                  obtain rfl : x100 = nI (M t k) := by rw [ex100]; exact congrArg nI (fM_at (by omega))
                  refine lv_isub hx hb dX4_sumOf_101 ?_
                  refine lv_topi (fun x101 ex101 => ?_)
                  refine lv_sipush (v := 256) hx hb dX4_sumOf_102 (by decide) ?_
                  refine lv_iadd hx hb dX4_sumOf_105 ?_
                  refine lv_topi (fun x105 ex105 => ?_)
                  obtain rfl : x105 = nI (M t (k + 1) + 256 - M t k) := by rw [ex105, ex101]; exact ce_num hm0
                  refine lv_bipush (v := 64) hx hb dX4_sumOf_106 (by decide) ?_
                  refine lv_idiv hx hb dX4_sumOf_108 (by decide) ?_
                  refine lv_topi (fun x108 ex108 => ?_)
                  obtain rfl : x108 = nI (ceN (M t) k) := by rw [ex108]; exact pk_div (a := M t (k + 1) + 256 - M t k) (d := 64) (by omega) (by omega) (by omega)
                  refine lv_istore (lv' := [(10, .int (nI (ceN (M t) k))), (9, .int (nI t)), (8, .int (nI (cnt (okR kn q w) t))), (7, .int (nI (cnt (samR kn (CM M) (ceN rw) q w k) t))), (6, .int (nI (ceN rw k))), (5, .int (nI k)), (3, .long (lN (sumK kn (CM M) (ceN rw) q w n k))), (0, .ref m_), (1, .int (nI q)), (2, .int w)]) hx hb dX4_sumOf_109 hl (by decide) rfl (fun ls hl => ?_)
                  refine lv_iload hx hb dX4_sumOf_111 (lv_at hl 3 rfl) ?_
                  refine lv_iload hx hb dX4_sumOf_113 (lv_at hl 0 rfl) ?_
                  refine lv_iload hx hb dX4_sumOf_115 (lv_at hl 4 rfl) ?_
                  refine lv_icmp_ne (tgt := 124) hx hb dX4_sumOf_117 (by decide) (fun c117 => ?_) (fun c117 => ?_)
                  · skip
                    have hsm : samR kn (CM M) (ceN rw) q w k t = false := sam_f (fun h => c117 (by rw [h]; rfl))
                    refine lv_iconst (v := 0) hx hb dX4_sumOf_124 (by decide) ?_
                    refine lv_iadd hx hb dX4_sumOf_125 ?_
                    refine lv_topi (fun x125 ex125 => ?_)
                    obtain rfl : x125 = nI (cnt (samR kn (CM M) (ceN rw) q w k) (t + 1)) := by rw [ex125]; first | (rw [cnt_s hsm]; exact nI_1 _) | (rw [← cnt_n hsm]; exact nI_add _ 0)
                    refine lv_istore (lv' := [(7, .int (nI (cnt (samR kn (CM M) (ceN rw) q w k) (t + 1)))), (10, .int (nI (ceN (M t) k))), (9, .int (nI t)), (8, .int (nI (cnt (okR kn q w) t))), (6, .int (nI (ceN rw k))), (5, .int (nI k)), (3, .long (lN (sumK kn (CM M) (ceN rw) q w n k))), (0, .ref m_), (1, .int (nI q)), (2, .int w)]) hx hb dX4_sumOf_126 hl (by decide) rfl (fun ls hl => ?_)
                    obtain ⟨x128, ex128⟩ : ∃ y : Int32, y = (nI (cnt (okR kn q w) t)) + 1 := ⟨_, rfl⟩
                    refine lv_iinc (v := x128) (lv' := [(8, .int x128), (7, .int (nI (cnt (samR kn (CM M) (ceN rw) q w k) (t + 1)))), (10, .int (nI (ceN (M t) k))), (9, .int (nI t)), (6, .int (nI (ceN rw k))), (5, .int (nI k)), (3, .long (lN (sumK kn (CM M) (ceN rw) q w n k))), (0, .ref m_), (1, .int (nI q)), (2, .int w)]) hx hb dX4_sumOf_128 hl (k := 3) rfl (by rw [ex128]; rfl) (by decide) rfl (fun ls hl => ?_)
                    obtain rfl : x128 = nI (cnt (okR kn q w) (t + 1)) := by rw [ex128, nI_1, cnt_s hok]
                    obtain ⟨x131, ex131⟩ : ∃ y : Int32, y = (nI t) + 1 := ⟨_, rfl⟩
                    refine lv_iinc (v := x131) (lv' := [(9, .int x131), (8, .int (nI (cnt (okR kn q w) (t + 1)))), (7, .int (nI (cnt (samR kn (CM M) (ceN rw) q w k) (t + 1)))), (10, .int (nI (ceN (M t) k))), (6, .int (nI (ceN rw k))), (5, .int (nI k)), (3, .long (lN (sumK kn (CM M) (ceN rw) q w n k))), (0, .ref m_), (1, .int (nI q)), (2, .int w)]) hx hb dX4_sumOf_131 hl (k := 3) rfl (by rw [ex131]; rfl) (by decide) rfl (fun ls hl => ?_)
                    obtain rfl : x131 = nI (t + 1) := by rw [ex131]; exact nI_1 _
                    refine lv_goto (tgt := 47) hx hb dX4_sumOf_134 (by decide) ?_
                    exact ih_47 (t + 1) (by omega) (by omega) H locs ls hP hD hS (lv_sub hl [0, 1, 2, 4, 5, 6, 7, 8, 9] rfl)
                  · skip
                    have hsm : samR kn (CM M) (ceN rw) q w k t = true := sam_t hok ((nI_eq (a := ceN (M t) k) (by omega) (by omega)).mp c117).symm
                    refine lv_iconst (v := 1) hx hb dX4_sumOf_120 (by decide) ?_
                    refine lv_goto (tgt := 125) hx hb dX4_sumOf_121 (by decide) ?_
                    refine lv_iadd hx hb dX4_sumOf_125 ?_
                    refine lv_topi (fun x125 ex125 => ?_)
                    obtain rfl : x125 = nI (cnt (samR kn (CM M) (ceN rw) q w k) (t + 1)) := by rw [ex125]; first | (rw [cnt_s hsm]; exact nI_1 _) | (rw [← cnt_n hsm]; exact nI_add _ 0)
                    refine lv_istore (lv' := [(7, .int (nI (cnt (samR kn (CM M) (ceN rw) q w k) (t + 1)))), (10, .int (nI (ceN (M t) k))), (9, .int (nI t)), (8, .int (nI (cnt (okR kn q w) t))), (6, .int (nI (ceN rw k))), (5, .int (nI k)), (3, .long (lN (sumK kn (CM M) (ceN rw) q w n k))), (0, .ref m_), (1, .int (nI q)), (2, .int w)]) hx hb dX4_sumOf_126 hl (by decide) rfl (fun ls hl => ?_)
                    obtain ⟨x128, ex128⟩ : ∃ y : Int32, y = (nI (cnt (okR kn q w) t)) + 1 := ⟨_, rfl⟩
                    refine lv_iinc (v := x128) (lv' := [(8, .int x128), (7, .int (nI (cnt (samR kn (CM M) (ceN rw) q w k) (t + 1)))), (10, .int (nI (ceN (M t) k))), (9, .int (nI t)), (6, .int (nI (ceN rw k))), (5, .int (nI k)), (3, .long (lN (sumK kn (CM M) (ceN rw) q w n k))), (0, .ref m_), (1, .int (nI q)), (2, .int w)]) hx hb dX4_sumOf_128 hl (k := 3) rfl (by rw [ex128]; rfl) (by decide) rfl (fun ls hl => ?_)
                    obtain rfl : x128 = nI (cnt (okR kn q w) (t + 1)) := by rw [ex128, nI_1, cnt_s hok]
                    obtain ⟨x131, ex131⟩ : ∃ y : Int32, y = (nI t) + 1 := ⟨_, rfl⟩
                    refine lv_iinc (v := x131) (lv' := [(9, .int x131), (8, .int (nI (cnt (okR kn q w) (t + 1)))), (7, .int (nI (cnt (samR kn (CM M) (ceN rw) q w k) (t + 1)))), (10, .int (nI (ceN (M t) k))), (6, .int (nI (ceN rw k))), (5, .int (nI k)), (3, .long (lN (sumK kn (CM M) (ceN rw) q w n k))), (0, .ref m_), (1, .int (nI q)), (2, .int w)]) hx hb dX4_sumOf_131 hl (k := 3) rfl (by rw [ex131]; rfl) (by decide) rfl (fun ls hl => ?_)
                    obtain rfl : x131 = nI (t + 1) := by rw [ex131]; exact nI_1 _
                    refine lv_goto (tgt := 47) hx hb dX4_sumOf_134 (by decide) ?_
                    exact ih_47 (t + 1) (by omega) (by omega) H locs ls hP hD hS (lv_sub hl [0, 1, 2, 4, 5, 6, 7, 8, 9] rfl)
        exact L_47 _ 0 (Nat.zero_le _) (Nat.lt_succ_self _) H locs ls hP hD hS (lv_sub hl [0, 1, 2, 3, 4, 5, 6, 7, 8] rfl)
  exact L_5 _ 0 (Nat.zero_le _) (Nat.lt_succ_self _) H locs ls hP hD hS (lv_sub hl [0, 1, 2, 3, 4] rfl)
abbrev rX4_readRow : Room := { frames := 1, cells := 0, slots := 0, locals := 30 }
set_option maxHeartbeats 4000000 in
set_option maxRecDepth 100000 in
theorem c_X4_readRow (l : Launch) (D : va_G) (cI cJ cG : ClassId) (sz : Nat) (R : va_W) (m_ md_ mw_ mv_ mk_ mr_ mo_ mf_ mb_ mx_ mp_ : Nat) (K : Nat) (n : Nat) (dn : Nat → Nat) (wn : Nat → Nat) (vn : Nat → Nat) (tk : Int64) (kn : Nat → Nat) (M : Nat → Nat → Nat) (wo : Nat → Int64) (le : Int64) (kd : Nat → Nat) (px : Nat) (F : Nat → Nat) (fc : Nat) (ft : Nat) (rw : Nat → Nat) (lb : Nat → Nat) (w : Int32) (hI : MI K n dn wn vn kn M kd px F fc rw lb) : Met l yX4_readRow wsX4_readRow rX4_readRow (gP D (tyl cI cJ cG) [.ref m_, .int w] (mwW cI cJ cG R m_ md_ mw_ mv_ mk_ mr_ mo_ mf_ mb_ mx_ mp_ K n dn wn vn tk kn M wo le kd px F fc ft rw lb) sz) (gQi D (tyl cI cJ cG) (mwW cI cJ cG R m_ md_ mw_ mv_ mk_ mr_ mo_ mf_ mb_ mx_ mp_ K n dn wn vn tk kn M wo le kd px F fc ft rw lb) sz (fun r (_ : Unit) => r = RD kn (CM M) (ceN rw) w n wo le K) (fun _ => (mwW cI cJ cG R m_ md_ mw_ mv_ mk_ mr_ mo_ mf_ mb_ mx_ mp_ K n dn wn vn tk kn M wo le kd px F fc ft rw lb))) 0 0 (va_A (mwW cI cJ cG R m_ md_ mw_ mv_ mk_ mr_ mo_ mf_ mb_ mx_ mp_ K n dn wn vn tk kn M wo le kd px F fc ft rw lb) sz) := by
  refine gMet (cc := cX4_readRow) (maxL := 8) (ret := (some .int)) (ls0 := [(0, .ref m_), (1, .int w)]) (by decide) rfl (Nat.le_of_ble_eq_true rfl) rfl ?_
  intro p e s m below meth c hx hb hr hts hown hlocks hml hname A hA hAe hsz Q hQe H locs hP hK hD hS ls hl
  have hown : s.vm.findClass RX4 = some m.cls := hown
  have in_X4 : ∀ w ∈ wsX40, w ∈ wsX4_readRow := by decide +kernel
  have f_45 := hts (.fieldLink RX4 45 "SpectrumHeadsModel" "kinds" "I") (by decide +kernel)
  have f_25 := hts (.fieldLink RX4 25 "SpectrumHeadsModel" "least" "J") (by decide +kernel)
  have f_29 := hts (.fieldLink RX4 29 "SpectrumHeadsModel" "worths" "[J") (by decide +kernel)
  obtain ⟨⟨hK1, hK4⟩, hn, ⟨hdn, hwn, hvn⟩, ⟨hkn, hM⟩, ⟨hkd, hpx, hlb⟩, ⟨hF, hfc⟩, hrw⟩ := id hI
  refine lv_iconst (v := 0) hx hb dX4_readRow_0 (by decide) ?_
  refine lv_istore_n (lv' := [(2, .int 0), (0, .ref m_), (1, .int w)]) hx hb dX4_readRow_1 rfl hl (by decide) rfl (fun ls hl => ?_)
  refine lv_iconst (v := 1) hx hb dX4_readRow_2 (by decide) ?_
  refine lv_istore_n (lv' := [(3, .int 1), (2, .int 0), (0, .ref m_), (1, .int w)]) hx hb dX4_readRow_3 rfl hl (by decide) rfl (fun ls hl => ?_)
  have L_4 : ∀ (n_4 : Nat) (k : Nat) (hk : k ≤ K) (hk1 : 1 ≤ k), K - k < n_4 → ∀ (H : Heap) (locs : List Loc) (ls : Array Slot), va_P D vwCl (mwW cI cJ cG R m_ md_ mw_ mv_ mk_ mr_ mo_ mf_ mb_ mx_ mp_ K n dn wn vn tk kn M wo le kd px F fc ft rw lb) H → va_D A (mwW cI cJ cG R m_ md_ mw_ mv_ mk_ mr_ mo_ mf_ mb_ mx_ mp_ K n dn wn vn tk kn M wo le kd px F fc ft rw lb) → va_S A s.heap H locs → lv_has ls 8 [(3, .int (nI k)), (2, .int (nI (grN (fun k => SUM kn (CM M) (ceN rw) k w n) wo k))), (0, .ref m_), (1, .int w)] → W p l e (headSpec wsX4_readRow rX4_readRow).room s m ([.ref m_, .int w] : List Value).toArray below meth c H locs 0 0 Q (F0 m 4 ls []) := by
    intro n_4
    induction n_4 with
    | zero => intro k hk hk1 hn_; exact absurd hn_ (Nat.not_lt_zero _)
    | succ n_4 ih_4 =>
      intro k hk hk1 hn_4 H locs ls hP hD hS hl
      refine lv_iload_n hx hb dX4_readRow_4 rfl (lv_at hl 0 rfl) ?_
      refine lv_aload_n hx hb dX4_readRow_5 rfl (lv_at hl 2 rfl) ?_
      refine va_get (D := D) (ci := 5) (v := .int (nI K)) (C := RX4) (T := TX4) (N := 17) hx hb hts in_X4 hown hK hP 0 rfl rfl 0 (by decide) f_45 (fun _ h9 => h9) rfl dX4_readRow_6 ?_
      refine lv_icmp_ge (tgt := 72) hx hb dX4_readRow_9 (by decide) (fun c9 => ?_) (fun c9 => ?_)
      · skip
        have hE9 := lp_e (n := K) c9 hk
        subst hE9
        have hgl := grN_lt (sc := (fun k => SUM kn (CM M) (ceN rw) k w n)) (wo := wo) K hK1
        refine lv_aload_n hx hb dX4_readRow_72 rfl (lv_at hl 2 rfl) ?_
        refine lv_iload_n hx hb dX4_readRow_73 rfl (lv_at hl 1 rfl) ?_
        refine lv_iload_n hx hb dX4_readRow_74 rfl (lv_at hl 3 rfl) ?_
        refine gc_Vl (As := [.int (nI (grN (fun K => SUM kn (CM M) (ceN rw) K w n) wo K)), .int w]) (rest := []) (ci := 5) (q0 := 0) ⟨hx, hb, hml, hown, hts⟩ (c_X4_sumOf l D cI cJ cG H.size R m_ md_ mw_ mv_ mk_ mr_ mo_ mf_ mb_ mx_ mp_ K n dn wn vn tk kn M wo le kd px F fc ft rw lb (grN (fun k => SUM kn (CM M) (ceN rw) k w n) wo K) w (by omega) hI) (cwV 2 hts gX4_readRow_X4_sumOf rfl rfl rfl (by decide +kernel) ⟨Nat.le_of_ble_eq_true rfl, Nat.le_of_ble_eq_true rfl⟩) rfl rfl rfl hK hP hD hS hA rfl hl.1 rfl (Nat.le_of_ble_eq_true rfl) dX4_readRow_75 ⟨Nat.le_of_ble_eq_true rfl, Nat.le_of_ble_eq_true rfl⟩ (fun r75 u75 H locs h75 hP hD hS => ?_)
        subst h75
        have hP : va_P D vwCl (mwW cI cJ cG R m_ md_ mw_ mv_ mk_ mr_ mo_ mf_ mb_ mx_ mp_ K n dn wn vn tk kn M wo le kd px F fc ft rw lb) H := hP
        have hD : va_D A (mwW cI cJ cG R m_ md_ mw_ mv_ mk_ mr_ mo_ mf_ mb_ mx_ mp_ K n dn wn vn tk kn M wo le kd px F fc ft rw lb) := hD
        refine lv_aload_n hx hb dX4_readRow_78 rfl (lv_at hl 2 rfl) ?_
        refine va_get (D := D) (ci := 5) (v := .long le) (C := RX4) (T := TX4) (N := 17) hx hb hts in_X4 hown hK hP 0 rfl rfl 8 (by decide) f_25 (fun _ h9 => h9) rfl dX4_readRow_79 ?_
        refine W.lcmp hx hb dX4_readRow_82 ?_
        refine lv_if_ge (tgt := 90) hx hb dX4_readRow_83 (by decide) (fun c83 => ?_) (fun c83 => ?_)
        · skip
          have hge : ¬ lN (SUM kn (CM M) (ceN rw) (grN (fun k => SUM kn (CM M) (ceN rw) k w n) wo K) w n) < le := lg_le_not_lt ((lg_cmp_ge _ _).mp c83)
          refine lv_iload_n hx hb dX4_readRow_90 rfl (lv_at hl 1 rfl) ?_
          subst hQe
          subst hAe
          subst hsz
          exact g_iret hx hb hr hlocks () (by unfold RD; first | exact rd_t hge | exact rd_f hlt) hP hK hD hS dX4_readRow_91
        · skip
          have hlt : lN (SUM kn (CM M) (ceN rw) (grN (fun k => SUM kn (CM M) (ceN rw) k w n) wo K) w n) < le := l_nle (fun h => c83 ((lg_cmp_ge _ _).mpr h))
          refine lv_iconst (v := -1) hx hb dX4_readRow_86 (by decide) ?_
          refine lv_goto (tgt := 91) hx hb dX4_readRow_87 (by decide) ?_
          subst hQe
          subst hAe
          subst hsz
          exact g_iret hx hb hr hlocks () (by unfold RD; first | exact rd_t hge | exact rd_f hlt) hP hK hD hS dX4_readRow_91
      · skip
        have hk8 := lp_l (n := K) c9 hk
        have hgl : (grN (fun k => SUM kn (CM M) (ceN rw) k w n) wo k) < k := grN_lt k hk1
        have hs1 := SUM_le (kn := kn) (C := CM M) (fc := ceN rw) (kd := k) (w := w) (n := n)
        have hs2 := SUM_le (kn := kn) (C := CM M) (fc := ceN rw) (kd := (grN (fun k => SUM kn (CM M) (ceN rw) k w n) wo k)) (w := w) (n := n)
        refine lv_aload_n hx hb dX4_readRow_12 rfl (lv_at hl 2 rfl) ?_
        refine lv_iload_n hx hb dX4_readRow_13 rfl (lv_at hl 0 rfl) ?_
        refine lv_iload_n hx hb dX4_readRow_14 rfl (lv_at hl 3 rfl) ?_
        refine gc_Vl (As := [.int (nI k), .int w]) (rest := []) (ci := 5) (q0 := 0) ⟨hx, hb, hml, hown, hts⟩ (c_X4_sumOf l D cI cJ cG H.size R m_ md_ mw_ mv_ mk_ mr_ mo_ mf_ mb_ mx_ mp_ K n dn wn vn tk kn M wo le kd px F fc ft rw lb k w (by omega) hI) (cwV 2 hts gX4_readRow_X4_sumOf rfl rfl rfl (by decide +kernel) ⟨Nat.le_of_ble_eq_true rfl, Nat.le_of_ble_eq_true rfl⟩) rfl rfl rfl hK hP hD hS hA rfl hl.1 rfl (Nat.le_of_ble_eq_true rfl) dX4_readRow_15 ⟨Nat.le_of_ble_eq_true rfl, Nat.le_of_ble_eq_true rfl⟩ (fun r15 u15 H locs h15 hP hD hS => ?_)
        subst h15
        have hP : va_P D vwCl (mwW cI cJ cG R m_ md_ mw_ mv_ mk_ mr_ mo_ mf_ mb_ mx_ mp_ K n dn wn vn tk kn M wo le kd px F fc ft rw lb) H := hP
        have hD : va_D A (mwW cI cJ cG R m_ md_ mw_ mv_ mk_ mr_ mo_ mf_ mb_ mx_ mp_ K n dn wn vn tk kn M wo le kd px F fc ft rw lb) := hD
        refine lv_lstore (lv' := [(4, .long (lN (SUM kn (CM M) (ceN rw) k w n))), (3, .int (nI k)), (2, .int (nI (grN (fun k => SUM kn (CM M) (ceN rw) k w n) wo k))), (0, .ref m_), (1, .int w)]) hx hb dX4_readRow_18 hl (by decide) rfl (fun ls hl => ?_)
        refine lv_aload_n hx hb dX4_readRow_20 rfl (lv_at hl 3 rfl) ?_
        refine lv_iload_n hx hb dX4_readRow_21 rfl (lv_at hl 2 rfl) ?_
        refine lv_iload_n hx hb dX4_readRow_22 rfl (lv_at hl 4 rfl) ?_
        refine gc_Vl (As := [.int (nI (grN (fun k => SUM kn (CM M) (ceN rw) k w n) wo k)), .int w]) (rest := []) (ci := 5) (q0 := 0) ⟨hx, hb, hml, hown, hts⟩ (c_X4_sumOf l D cI cJ cG H.size R m_ md_ mw_ mv_ mk_ mr_ mo_ mf_ mb_ mx_ mp_ K n dn wn vn tk kn M wo le kd px F fc ft rw lb (grN (fun k => SUM kn (CM M) (ceN rw) k w n) wo k) w (by omega) hI) (cwV 2 hts gX4_readRow_X4_sumOf rfl rfl rfl (by decide +kernel) ⟨Nat.le_of_ble_eq_true rfl, Nat.le_of_ble_eq_true rfl⟩) rfl rfl rfl hK hP hD hS hA rfl hl.1 rfl (Nat.le_of_ble_eq_true rfl) dX4_readRow_23 ⟨Nat.le_of_ble_eq_true rfl, Nat.le_of_ble_eq_true rfl⟩ (fun r23 u23 H locs h23 hP hD hS => ?_)
        subst h23
        have hP : va_P D vwCl (mwW cI cJ cG R m_ md_ mw_ mv_ mk_ mr_ mo_ mf_ mb_ mx_ mp_ K n dn wn vn tk kn M wo le kd px F fc ft rw lb) H := hP
        have hD : va_D A (mwW cI cJ cG R m_ md_ mw_ mv_ mk_ mr_ mo_ mf_ mb_ mx_ mp_ K n dn wn vn tk kn M wo le kd px F fc ft rw lb) := hD
        refine lv_lstore (lv' := [(6, .long (lN (SUM kn (CM M) (ceN rw) (grN (fun k => SUM kn (CM M) (ceN rw) k w n) wo k) w n))), (4, .long (lN (SUM kn (CM M) (ceN rw) k w n))), (3, .int (nI k)), (2, .int (nI (grN (fun k => SUM kn (CM M) (ceN rw) k w n) wo k))), (0, .ref m_), (1, .int w)]) hx hb dX4_readRow_26 hl (by decide) rfl (fun ls hl => ?_)
        refine lv_lload hx hb dX4_readRow_28 (lv_at hl 1 rfl) ?_
        refine lv_lload hx hb dX4_readRow_30 (lv_at hl 0 rfl) ?_
        refine W.lcmp hx hb dX4_readRow_32 ?_
        refine lv_if_gt (tgt := 60) hx hb dX4_readRow_33 (by decide) (fun c33 => ?_) (fun c33 => ?_)
        · skip
          have hyes : (SUM kn (CM M) (ceN rw) (grN (fun k => SUM kn (CM M) (ceN rw) k w n) wo k) w n) < (SUM kn (CM M) (ceN rw) k w n) ∨ ((SUM kn (CM M) (ceN rw) k w n) = (SUM kn (CM M) (ceN rw) (grN (fun k => SUM kn (CM M) (ceN rw) k w n) wo k) w n) ∧ wo (grN (fun k => SUM kn (CM M) (ceN rw) k w n) wo k) < wo k) := Or.inl ((pk_lLT (by omega) (by omega)).mp ((lg_cmp_gt _ _).mp c33))
          refine lv_iload_n hx hb dX4_readRow_60 rfl (lv_at hl 2 rfl) ?_
          refine lv_goto (tgt := 65) hx hb dX4_readRow_61 (by decide) ?_
          refine lv_istore_n (lv' := [(2, .int (nI k)), (6, .long (lN (SUM kn (CM M) (ceN rw) (grN (fun k => SUM kn (CM M) (ceN rw) k w n) wo k) w n))), (4, .long (lN (SUM kn (CM M) (ceN rw) k w n))), (3, .int (nI k)), (0, .ref m_), (1, .int w)]) hx hb dX4_readRow_65 rfl hl (by decide) rfl (fun ls hl => ?_)
          have hl := gr_loc hl (grN_t (sc := (fun k => SUM kn (CM M) (ceN rw) k w n)) (wo := wo) hk1 hyes)
          obtain ⟨x66, ex66⟩ : ∃ y : Int32, y = (nI k) + 1 := ⟨_, rfl⟩
          refine lv_iinc (v := x66) (lv' := [(3, .int x66), (2, .int (nI (grN (fun k => SUM kn (CM M) (ceN rw) k w n) wo (k + 1)))), (6, .long (lN (SUM kn (CM M) (ceN rw) (grN (fun k => SUM kn (CM M) (ceN rw) k w n) wo k) w n))), (4, .long (lN (SUM kn (CM M) (ceN rw) k w n))), (0, .ref m_), (1, .int w)]) hx hb dX4_readRow_66 hl (k := 3) rfl (by rw [ex66]; rfl) (by decide) rfl (fun ls hl => ?_)
          obtain rfl : x66 = nI (k + 1) := by rw [ex66]; exact nI_1 _
          refine lv_goto (tgt := 4) hx hb dX4_readRow_69 (by decide) ?_
          exact ih_4 (k + 1) (by omega) (by omega) (by omega) H locs ls hP hD hS (lv_sub hl [0, 1, 4, 5] rfl)
        · skip
          have hgt : ¬ (SUM kn (CM M) (ceN rw) (grN (fun k => SUM kn (CM M) (ceN rw) k w n) wo k) w n) < (SUM kn (CM M) (ceN rw) k w n) := fun h => c33 ((lg_cmp_gt _ _).mpr ((pk_lLT (by omega) (by omega)).mpr h))
          refine lv_lload hx hb dX4_readRow_36 (lv_at hl 1 rfl) ?_
          refine lv_lload hx hb dX4_readRow_38 (lv_at hl 0 rfl) ?_
          refine W.lcmp hx hb dX4_readRow_40 ?_
          refine lv_if_ne (tgt := 64) hx hb dX4_readRow_41 (by decide) (fun c41 => ?_) (fun c41 => ?_)
          · skip
            have hno : ¬ ((SUM kn (CM M) (ceN rw) (grN (fun k => SUM kn (CM M) (ceN rw) k w n) wo k) w n) < (SUM kn (CM M) (ceN rw) k w n) ∨ ((SUM kn (CM M) (ceN rw) k w n) = (SUM kn (CM M) (ceN rw) (grN (fun k => SUM kn (CM M) (ceN rw) k w n) wo k) w n) ∧ wo (grN (fun k => SUM kn (CM M) (ceN rw) k w n) wo k) < wo k)) := fun h => h.elim hgt (fun h2 => c41 ((lg_cmp_eq _ _).mpr (by rw [h2.1])))
            refine lv_iload_n hx hb dX4_readRow_64 rfl (lv_at hl 3 rfl) ?_
            refine lv_istore_n (lv' := [(2, .int (nI (grN (fun k => SUM kn (CM M) (ceN rw) k w n) wo k))), (6, .long (lN (SUM kn (CM M) (ceN rw) (grN (fun k => SUM kn (CM M) (ceN rw) k w n) wo k) w n))), (4, .long (lN (SUM kn (CM M) (ceN rw) k w n))), (3, .int (nI k)), (0, .ref m_), (1, .int w)]) hx hb dX4_readRow_65 rfl hl (by decide) rfl (fun ls hl => ?_)
            have hl := gr_loc hl (grN_f (sc := (fun k => SUM kn (CM M) (ceN rw) k w n)) (wo := wo) hk1 hno)
            obtain ⟨x66, ex66⟩ : ∃ y : Int32, y = (nI k) + 1 := ⟨_, rfl⟩
            refine lv_iinc (v := x66) (lv' := [(3, .int x66), (2, .int (nI (grN (fun k => SUM kn (CM M) (ceN rw) k w n) wo (k + 1)))), (6, .long (lN (SUM kn (CM M) (ceN rw) (grN (fun k => SUM kn (CM M) (ceN rw) k w n) wo k) w n))), (4, .long (lN (SUM kn (CM M) (ceN rw) k w n))), (0, .ref m_), (1, .int w)]) hx hb dX4_readRow_66 hl (k := 3) rfl (by rw [ex66]; rfl) (by decide) rfl (fun ls hl => ?_)
            obtain rfl : x66 = nI (k + 1) := by rw [ex66]; exact nI_1 _
            refine lv_goto (tgt := 4) hx hb dX4_readRow_69 (by decide) ?_
            exact ih_4 (k + 1) (by omega) (by omega) (by omega) H locs ls hP hD hS (lv_sub hl [0, 1, 4, 5] rfl)
          · skip
            have hse : (SUM kn (CM M) (ceN rw) k w n) = (SUM kn (CM M) (ceN rw) (grN (fun k => SUM kn (CM M) (ceN rw) k w n) wo k) w n) := (pk_lEQ (by omega) (by omega)).mp ((lg_cmp_eq _ _).mp c41)
            refine lv_aload_n hx hb dX4_readRow_44 rfl (lv_at hl 4 rfl) ?_
            refine va_get (D := D) (ci := 5) (v := .ref mo_) (C := RX4) (T := TX4) (N := 17) hx hb hts in_X4 hown hK hP 0 rfl rfl 9 (by decide) f_29 (fun _ h9 => h9) rfl dX4_readRow_45 ?_
            refine lv_iload_n hx hb dX4_readRow_48 rfl (lv_at hl 2 rfl) ?_
            refine va_lald hx hb hK hP (6) 1 rfl rfl (by first | exact vp_in_nI (by omega) (by omega) | assumption) dX4_readRow_49 ?_
            refine lv_topl (fun x49 ex49 => ?_)
            rw [nI_clamp (by omega)] at ex49
            obtain rfl : x49 = wo k := by exact ex49
            refine lv_aload_n hx hb dX4_readRow_50 rfl (lv_at hl 4 rfl) ?_
            refine va_get (D := D) (ci := 5) (v := .ref mo_) (C := RX4) (T := TX4) (N := 17) hx hb hts in_X4 hown hK hP 0 rfl rfl 9 (by decide) f_29 (fun _ h9 => h9) rfl dX4_readRow_51 ?_
            refine lv_iload_n hx hb dX4_readRow_54 rfl (lv_at hl 3 rfl) ?_
            refine va_lald hx hb hK hP (6) 1 rfl rfl (by first | exact vp_in_nI (by omega) (by omega) | assumption) dX4_readRow_55 ?_
            refine lv_topl (fun x55 ex55 => ?_)
            rw [nI_clamp (by omega)] at ex55
            obtain rfl : x55 = wo (grN (fun k => SUM kn (CM M) (ceN rw) k w n) wo k) := by exact ex55
            refine W.lcmp hx hb dX4_readRow_56 ?_
            refine lv_if_le (tgt := 64) hx hb dX4_readRow_57 (by decide) (fun c57 => ?_) (fun c57 => ?_)
            · skip
              have hno : ¬ ((SUM kn (CM M) (ceN rw) (grN (fun k => SUM kn (CM M) (ceN rw) k w n) wo k) w n) < (SUM kn (CM M) (ceN rw) k w n) ∨ ((SUM kn (CM M) (ceN rw) k w n) = (SUM kn (CM M) (ceN rw) (grN (fun k => SUM kn (CM M) (ceN rw) k w n) wo k) w n) ∧ wo (grN (fun k => SUM kn (CM M) (ceN rw) k w n) wo k) < wo k)) := fun h => h.elim hgt (fun h2 => by have := (lg_cmp_le _ _).mp c57; rw [Int64.le_iff_toInt_le] at this; have h3 := h2.2; rw [Int64.lt_iff_toInt_lt] at h3; omega)
              refine lv_iload_n hx hb dX4_readRow_64 rfl (lv_at hl 3 rfl) ?_
              refine lv_istore_n (lv' := [(2, .int (nI (grN (fun k => SUM kn (CM M) (ceN rw) k w n) wo k))), (6, .long (lN (SUM kn (CM M) (ceN rw) (grN (fun k => SUM kn (CM M) (ceN rw) k w n) wo k) w n))), (4, .long (lN (SUM kn (CM M) (ceN rw) k w n))), (3, .int (nI k)), (0, .ref m_), (1, .int w)]) hx hb dX4_readRow_65 rfl hl (by decide) rfl (fun ls hl => ?_)
              have hl := gr_loc hl (grN_f (sc := (fun k => SUM kn (CM M) (ceN rw) k w n)) (wo := wo) hk1 hno)
              obtain ⟨x66, ex66⟩ : ∃ y : Int32, y = (nI k) + 1 := ⟨_, rfl⟩
              refine lv_iinc (v := x66) (lv' := [(3, .int x66), (2, .int (nI (grN (fun k => SUM kn (CM M) (ceN rw) k w n) wo (k + 1)))), (6, .long (lN (SUM kn (CM M) (ceN rw) (grN (fun k => SUM kn (CM M) (ceN rw) k w n) wo k) w n))), (4, .long (lN (SUM kn (CM M) (ceN rw) k w n))), (0, .ref m_), (1, .int w)]) hx hb dX4_readRow_66 hl (k := 3) rfl (by rw [ex66]; rfl) (by decide) rfl (fun ls hl => ?_)
              obtain rfl : x66 = nI (k + 1) := by rw [ex66]; exact nI_1 _
              refine lv_goto (tgt := 4) hx hb dX4_readRow_69 (by decide) ?_
              exact ih_4 (k + 1) (by omega) (by omega) (by omega) H locs ls hP hD hS (lv_sub hl [0, 1, 4, 5] rfl)
            · skip
              have hyes : (SUM kn (CM M) (ceN rw) (grN (fun k => SUM kn (CM M) (ceN rw) k w n) wo k) w n) < (SUM kn (CM M) (ceN rw) k w n) ∨ ((SUM kn (CM M) (ceN rw) k w n) = (SUM kn (CM M) (ceN rw) (grN (fun k => SUM kn (CM M) (ceN rw) k w n) wo k) w n) ∧ wo (grN (fun k => SUM kn (CM M) (ceN rw) k w n) wo k) < wo k) := Or.inr ⟨hse, by have := mt (lg_cmp_le _ _).mpr c57; rw [Int64.le_iff_toInt_le] at this; rw [Int64.lt_iff_toInt_lt]; omega⟩
              refine lv_iload_n hx hb dX4_readRow_60 rfl (lv_at hl 2 rfl) ?_
              refine lv_goto (tgt := 65) hx hb dX4_readRow_61 (by decide) ?_
              refine lv_istore_n (lv' := [(2, .int (nI k)), (6, .long (lN (SUM kn (CM M) (ceN rw) (grN (fun k => SUM kn (CM M) (ceN rw) k w n) wo k) w n))), (4, .long (lN (SUM kn (CM M) (ceN rw) k w n))), (3, .int (nI k)), (0, .ref m_), (1, .int w)]) hx hb dX4_readRow_65 rfl hl (by decide) rfl (fun ls hl => ?_)
              have hl := gr_loc hl (grN_t (sc := (fun k => SUM kn (CM M) (ceN rw) k w n)) (wo := wo) hk1 hyes)
              obtain ⟨x66, ex66⟩ : ∃ y : Int32, y = (nI k) + 1 := ⟨_, rfl⟩
              refine lv_iinc (v := x66) (lv' := [(3, .int x66), (2, .int (nI (grN (fun k => SUM kn (CM M) (ceN rw) k w n) wo (k + 1)))), (6, .long (lN (SUM kn (CM M) (ceN rw) (grN (fun k => SUM kn (CM M) (ceN rw) k w n) wo k) w n))), (4, .long (lN (SUM kn (CM M) (ceN rw) k w n))), (0, .ref m_), (1, .int w)]) hx hb dX4_readRow_66 hl (k := 3) rfl (by rw [ex66]; rfl) (by decide) rfl (fun ls hl => ?_)
              obtain rfl : x66 = nI (k + 1) := by rw [ex66]; exact nI_1 _
              refine lv_goto (tgt := 4) hx hb dX4_readRow_69 (by decide) ?_
              exact ih_4 (k + 1) (by omega) (by omega) (by omega) H locs ls hP hD hS (lv_sub hl [0, 1, 4, 5] rfl)
  exact L_4 _ 1 hK1 (Nat.le_refl _) (Nat.lt_succ_self _) H locs ls hP hD hS (lv_sub hl [0, 1, 2, 3] rfl)
