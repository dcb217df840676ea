abbrev rX3_white : Room := { frames := 1, cells := 0, slots := 0, locals := 22 }
set_option maxHeartbeats 4000000 in
set_option maxRecDepth 100000 in
theorem c_X3_white (l : Launch) (D : va_G) (cI cJ cG : ClassId) (sz : Nat) (R : va_W) (h_ c_ d_ w_ v_ t_ rk_ ro_ rc_ al_ b_ ka_ na_ jo_ me_ wo_ fd_ nr_ nc_ sc_ : Nat) (ar ac : Nat → Nat) (K : Nat) (n : Nat) (dn : Nat → Nat) (wn : Nat → Nat) (vn : Nat → Nat) (tk : Int64) (kn : Nat → Nat) (M : Nat → Nat → Nat) (C : Nat → Nat → Nat) (al : Nat → Nat) (kd : Nat → Nat) (me : Nat → Nat) (px : Nat) (pcs : Nat) (bt : Bst) (wo : Nat → Int64) (le : Int64) (F : Nat → Nat) (fc : Nat) (nr : Nat → Nat) (nc : Nat → Nat) (sc : Nat → Nat) (a : Nat) (y : Int32) (ha_ : a < 8) (hI : HI K n dn wn vn kn M C kd px pcs bt F fc nr nc) : Met l yX3_white wsX3_white rX3_white (gP D (tyl cI cJ cG) [.ref h_, .int (nI a), .int y] (hwW cI cJ cG R h_ c_ d_ w_ v_ t_ rk_ ro_ rc_ al_ b_ ka_ na_ jo_ me_ wo_ fd_ nr_ nc_ sc_ ar ac K n dn wn vn tk kn M C al kd me px pcs bt wo le F fc nr nc sc) sz) (gQi D (tyl cI cJ cG) (hwW cI cJ cG R h_ c_ d_ w_ v_ t_ rk_ ro_ rc_ al_ b_ ka_ na_ jo_ me_ wo_ fd_ nr_ nc_ sc_ ar ac K n dn wn vn tk kn M C al kd me px pcs bt wo le F fc nr nc sc) sz (fun r (u : Nat → Nat) => r = bI (inB y 256) ∧ u = setN (nI a) y wn) (fun u => (hwW cI cJ cG R h_ c_ d_ w_ v_ t_ rk_ ro_ rc_ al_ b_ ka_ na_ jo_ me_ wo_ fd_ nr_ nc_ sc_ ar ac K n dn u vn tk kn M C al kd me px pcs bt wo le F fc nr nc sc))) 0 0 (va_A (hwW cI cJ cG R h_ c_ d_ w_ v_ t_ rk_ ro_ rc_ al_ b_ ka_ na_ jo_ me_ wo_ fd_ nr_ nc_ sc_ ar ac K n dn wn vn tk kn M C al kd me px pcs bt wo le F fc nr nc sc) sz) := by
  refine gMet (cc := cX3_white) (maxL := 3) (ret := (some .boolean)) (ls0 := [(0, .ref h_), (1, .int (nI a)), (2, .int y)]) (by decide) rfl (Nat.le_of_ble_eq_true rfl) rfl ?_
  intro p e s m below meth c hx hb hr hts hown hlocks hml hname A hA hAe hsz Q hQe H locs hP hK hD hS ls hl
  have hown : s.vm.findClass RX3 = some m.cls := hown
  have in_X3 : ∀ w ∈ wsX30, w ∈ wsX3_white := by decide +kernel
  have f_16 := hts (.fieldLink RX3 16 "SpectrumHeads" "channels" "LSpectrumHeads$Channels;") (by decide +kernel)
  refine lv_iload_n hx hb dX3_white_0 rfl (lv_at hl 1 rfl) ?_
  refine gc_Si (As := [.int (nI a)]) (rest := []) ⟨hx, hb, hml, hown, hts⟩ (c_X3_isChannel l D cI cJ cG H.size _ (nI a)) (va_cwS 1 hts gX3_white_X3_isChannel rfl rfl rfl (by decide +kernel) ⟨Nat.le_of_ble_eq_true rfl, Nat.le_of_ble_eq_true rfl⟩) hK hP hD hS hA rfl hl.1 rfl (Nat.le_of_ble_eq_true rfl) dX3_white_1 ⟨Nat.le_of_ble_eq_true rfl, Nat.le_of_ble_eq_true rfl⟩ (fun r1 u1 H locs h1 hP hD hS => ?_)
  subst h1
  have hP : va_P D vwCl (hwW cI cJ cG R h_ c_ d_ w_ v_ t_ rk_ ro_ rc_ al_ b_ ka_ na_ jo_ me_ wo_ fd_ nr_ nc_ sc_ ar ac K n dn wn vn tk kn M C al kd me px pcs bt wo le F fc nr nc sc) H := hP
  have hD : va_D A (hwW cI cJ cG R h_ c_ d_ w_ v_ t_ rk_ ro_ rc_ al_ b_ ka_ na_ jo_ me_ wo_ fd_ nr_ nc_ sc_ ar ac K n dn wn vn tk kn M C al kd me px pcs bt wo le F fc nr nc sc) := hD
  refine lv_if_ne (tgt := 17) hx hb dX3_white_4 (by decide) (fun c4 => ?_) (fun c4 => ?_)
  · skip
    refine lv_iload_n hx hb dX3_white_17 rfl (lv_at hl 2 rfl) ?_
    refine gc_Si (As := [.int y]) (rest := []) ⟨hx, hb, hml, hown, hts⟩ (c_X3_isByte l D cI cJ cG H.size _ y) (va_cwS 1 hts gX3_white_X3_isByte rfl rfl rfl (by decide +kernel) ⟨Nat.le_of_ble_eq_true rfl, Nat.le_of_ble_eq_true rfl⟩) hK hP hD hS hA rfl hl.1 rfl (Nat.le_of_ble_eq_true rfl) dX3_white_18 ⟨Nat.le_of_ble_eq_true rfl, Nat.le_of_ble_eq_true rfl⟩ (fun r18 u18 H locs h18 hP hD hS => ?_)
    subst h18
    have hP : va_P D vwCl (hwW cI cJ cG R h_ c_ d_ w_ v_ t_ rk_ ro_ rc_ al_ b_ ka_ na_ jo_ me_ wo_ fd_ nr_ nc_ sc_ ar ac K n dn wn vn tk kn M C al kd me px pcs bt wo le F fc nr nc sc) H := hP
    have hD : va_D A (hwW cI cJ cG R h_ c_ d_ w_ v_ t_ rk_ ro_ rc_ al_ b_ ka_ na_ jo_ me_ wo_ fd_ nr_ nc_ sc_ ar ac K n dn wn vn tk kn M C al kd me px pcs bt wo le F fc nr nc sc) := hD
    refine lv_if_eq (tgt := 40) hx hb dX3_white_21 (by decide) (fun c21 => ?_) (fun c21 => ?_)
    · skip
      have hB21 := bI_0.mp c21
      refine lv_iconst (v := 0) hx hb dX3_white_40 (by decide) ?_
      subst hQe
      subst hAe
      subst hsz
      exact g_zret hx hb hr hlocks rfl wn ⟨by rw [hB21]; rfl, setN_f2 hB21⟩ hP hK hD hS dX3_white_41
    · skip
      have hB21 := bI_n0.mp c21
      obtain ⟨b, hb_, rfl⟩ := inB_of hB21 (by omega)
      refine lv_aload_n hx hb dX3_white_24 rfl (lv_at hl 0 rfl) ?_
      refine va_get (D := D) (ci := 4) (v := .ref c_) (C := RX3) (T := TX3) (N := 11) hx hb hts in_X3 hown hK hP 0 rfl rfl 1 (by decide) f_16 (fun _ h9 => h9) rfl dX3_white_25 ?_
      refine lv_iload_n hx hb dX3_white_28 rfl (lv_at hl 1 rfl) ?_
      refine lv_iload_n hx hb dX3_white_29 rfl (lv_at hl 2 rfl) ?_
      have hP := pm_1_2_3_4_0_5_6_7_8_9_10_11_12_13_14_15_16_17_18_19_P hP
      have hD := pm_1_2_3_4_0_5_6_7_8_9_10_11_12_13_14_15_16_17_18_19_D hD
      refine gc_Vi (As := [.int (nI a), .int (nI b)]) (rest := []) (ci := 2) (q0 := 0) ⟨hx, hb, hml, hown, hts⟩ (c_X1_setWhite l D cI cJ cG H.size _ c_ d_ w_ v_ dn wn vn tk a b ha_) (cwV 2 hts gX3_white_X1_setWhite rfl rfl rfl (by decide +kernel) ⟨Nat.le_of_ble_eq_true rfl, Nat.le_of_ble_eq_true rfl⟩) rfl rfl rfl hK hP hD hS hA rfl hl.1 rfl (Nat.le_of_ble_eq_true rfl) dX3_white_30 ⟨Nat.le_of_ble_eq_true rfl, Nat.le_of_ble_eq_true rfl⟩ (fun r30 u30 H locs h30 hP hD hS => ?_)
      subst h30
      have hP := pm_4_0_1_2_3_5_6_7_8_9_10_11_12_13_14_15_16_17_18_19_P hP
      have hD := pm_4_0_1_2_3_5_6_7_8_9_10_11_12_13_14_15_16_17_18_19_D hD
      have hP : va_P D vwCl (hwW cI cJ cG R h_ c_ d_ w_ v_ t_ rk_ ro_ rc_ al_ b_ ka_ na_ jo_ me_ wo_ fd_ nr_ nc_ sc_ ar ac K n dn (un wn a b) vn tk kn M C al kd me px pcs bt wo le F fc nr nc sc) H := hP
      have hD : va_D A (hwW cI cJ cG R h_ c_ d_ w_ v_ t_ rk_ ro_ rc_ al_ b_ ka_ na_ jo_ me_ wo_ fd_ nr_ nc_ sc_ ar ac K n dn (un wn a b) vn tk kn M C al kd me px pcs bt wo le F fc nr nc sc) := hD
      refine lv_if_eq (tgt := 40) hx hb dX3_white_33 (by decide) (fun c33 => ?_) (fun c33 => ?_)
      · skip
        exact absurd c33 (by decide)
      · skip
        refine lv_iconst (v := 1) hx hb dX3_white_36 (by decide) ?_
        refine lv_goto (tgt := 41) hx hb dX3_white_37 (by decide) ?_
        subst hQe
        subst hAe
        subst hsz
        exact g_zret hx hb hr hlocks rfl (un wn a b) ⟨by rw [inB_nI hb_ (by omega)]; rfl, setN_t ha_ hb_⟩ hP hK hD hS dX3_white_41
  · skip
    exact absurd c4 (bI_n0.mpr (inB_nI ha_ (by omega)))
