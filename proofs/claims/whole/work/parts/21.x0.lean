abbrev rX0_isFree : Room := { frames := 1, cells := 0, slots := 0, locals := 21 }
set_option maxHeartbeats 4000000 in
set_option maxRecDepth 100000 in
theorem c_X0_isFree (l : Launch) (D : va_G) (cI cJ cG : ClassId) (sz : Nat) (R : va_W) (b_ ka_ na_ jo_ me_ : Nat) (kd me : Nat → Nat) (px pcs : Nat) (bt : Bst) (x y : Int32) (hkd : ∀ p, kd p ≤ 6) (hpx : px ≤ 100) : Met l yX0_isFree wsX0_isFree rX0_isFree (gP D (tyl cI cJ cG) [.ref b_, .int x, .int y] ((b_, .inr (1, [.ref ka_, .ref na_, .ref jo_, .ref me_, .int (nI bt.2.2), .int (nI px), .int (nI pcs)])) :: (ka_, .inl (cI, 256, .inl (k2 kd))) :: (na_, .inl (cI, 256, .inl (l1 bt.1))) :: (jo_, .inl (cI, 100, .inl (nf bt.2.1))) :: (me_, .inl (cI, 100, .inl (nf me))) :: R) sz) (gQi D (tyl cI cJ cG) ((b_, .inr (1, [.ref ka_, .ref na_, .ref jo_, .ref me_, .int (nI bt.2.2), .int (nI px), .int (nI pcs)])) :: (ka_, .inl (cI, 256, .inl (k2 kd))) :: (na_, .inl (cI, 256, .inl (l1 bt.1))) :: (jo_, .inl (cI, 100, .inl (nf bt.2.1))) :: (me_, .inl (cI, 100, .inl (nf me))) :: R) sz (fun r (_ : Unit) => r = bI ((inB x 16 && inB y 16) && decide (px < 100) && decide (kd (plc x y) = 0))) (fun _ => ((b_, .inr (1, [.ref ka_, .ref na_, .ref jo_, .ref me_, .int (nI bt.2.2), .int (nI px), .int (nI pcs)])) :: (ka_, .inl (cI, 256, .inl (k2 kd))) :: (na_, .inl (cI, 256, .inl (l1 bt.1))) :: (jo_, .inl (cI, 100, .inl (nf bt.2.1))) :: (me_, .inl (cI, 100, .inl (nf me))) :: R))) 0 0 (va_A ((b_, .inr (1, [.ref ka_, .ref na_, .ref jo_, .ref me_, .int (nI bt.2.2), .int (nI px), .int (nI pcs)])) :: (ka_, .inl (cI, 256, .inl (k2 kd))) :: (na_, .inl (cI, 256, .inl (l1 bt.1))) :: (jo_, .inl (cI, 100, .inl (nf bt.2.1))) :: (me_, .inl (cI, 100, .inl (nf me))) :: R) sz) := by
  refine gMet (cc := cX0_isFree) (maxL := 3) (ret := (some .boolean)) (ls0 := [(0, .ref b_), (1, .int x), (2, .int y)]) (by decide) rfl (Nat.le_of_ble_eq_true rfl) rfl ?_
  intro p e s m below meth c hx hb hr hts hown hlocks hml hname A hA hAe hsz Q hQe H locs hP hK hD hS ls hl
  have hown : s.vm.findClass RX0 = some m.cls := hown
  have in_X0 : ∀ w ∈ wsX00, w ∈ wsX0_isFree := by decide +kernel
  have f_34 := hts (.fieldLink RX0 34 "SpectrumHeads$Belt" "pixels" "I") (by decide +kernel)
  have f_11 := hts (.fieldLink RX0 11 "SpectrumHeads$Belt" "kindAt" "[I") (by decide +kernel)
  refine lv_iload_n hx hb dX0_isFree_0 rfl (lv_at hl 1 rfl) ?_
  refine lv_iload_n hx hb dX0_isFree_1 rfl (lv_at hl 2 rfl) ?_
  refine gc_Si (As := [.int x, .int y]) (rest := []) ⟨hx, hb, hml, hown, hts⟩ (c_X0_isPlace l D cI cJ cG H.size ((b_, .inr (1, [.ref ka_, .ref na_, .ref jo_, .ref me_, .int (nI bt.2.2), .int (nI px), .int (nI pcs)])) :: (ka_, .inl (cI, 256, .inl (k2 kd))) :: (na_, .inl (cI, 256, .inl (l1 bt.1))) :: (jo_, .inl (cI, 100, .inl (nf bt.2.1))) :: (me_, .inl (cI, 100, .inl (nf me))) :: R) x y) (va_cwS 2 hts gX0_isFree_X0_isPlace rfl rfl rfl (by decide +kernel) ⟨Nat.le_of_ble_eq_true rfl, Nat.le_of_ble_eq_true rfl⟩) hK hP hD hS hA rfl hl.1 rfl (Nat.le_of_ble_eq_true rfl) dX0_isFree_2 ⟨Nat.le_of_ble_eq_true rfl, Nat.le_of_ble_eq_true rfl⟩ (fun r2 u2 H locs h2 hP hD hS => ?_)
  subst h2
  have hP : va_P D vwCl ((b_, .inr (1, [.ref ka_, .ref na_, .ref jo_, .ref me_, .int (nI bt.2.2), .int (nI px), .int (nI pcs)])) :: (ka_, .inl (cI, 256, .inl (k2 kd))) :: (na_, .inl (cI, 256, .inl (l1 bt.1))) :: (jo_, .inl (cI, 100, .inl (nf bt.2.1))) :: (me_, .inl (cI, 100, .inl (nf me))) :: R) H := hP
  have hD : va_D A ((b_, .inr (1, [.ref ka_, .ref na_, .ref jo_, .ref me_, .int (nI bt.2.2), .int (nI px), .int (nI pcs)])) :: (ka_, .inl (cI, 256, .inl (k2 kd))) :: (na_, .inl (cI, 256, .inl (l1 bt.1))) :: (jo_, .inl (cI, 100, .inl (nf bt.2.1))) :: (me_, .inl (cI, 100, .inl (nf me))) :: R) := hD
  refine lv_if_eq (tgt := 37) hx hb dX0_isFree_5 (by decide) (fun c5 => ?_) (fun c5 => ?_)
  · skip
    have hpl := bI_0.mp c5
    refine lv_iconst (v := 0) hx hb dX0_isFree_37 (by decide) ?_
    subst hQe
    subst hAe
    subst hsz
    exact g_zret hx hb hr hlocks rfl () (by first | (rw [hpl]; rfl) | (rw [isPl_t ha hb_, plc_nI ha hb_, decide_eq_true hp1, decide_eq_true hz]; rfl) | (rw [isPl_t ha hb_, plc_nI ha hb_, decide_eq_false hz, Bool.and_false]; rfl) | (rw [isPl_t ha hb_, decide_eq_false hp1]; rfl)) hP hK hD hS dX0_isFree_38
  · skip
    have hpl := bI_n0.mp c5
    obtain ⟨a, b, ha, hb_, rfl, rfl⟩ := isPl hpl
    refine lv_aload_n hx hb dX0_isFree_8 rfl (lv_at hl 0 rfl) ?_
    refine va_get (D := D) (ci := 1) (v := .int (nI px)) (C := RX0) (T := TX0) (N := 7) hx hb hts in_X0 hown hK hP 0 rfl rfl 5 (by decide) f_34 (fun _ h9 => h9) rfl dX0_isFree_9 ?_
    refine lv_bipush (v := 100) hx hb dX0_isFree_12 (by decide) ?_
    refine lv_icmp_ge (tgt := 37) hx hb dX0_isFree_14 (by decide) (fun c14 => ?_) (fun c14 => ?_)
    · skip
      have hp1 : ¬ px < 100 := by have := (nI_leI (a := 100) (by omega) (by omega)).mp c14; omega
      refine lv_iconst (v := 0) hx hb dX0_isFree_37 (by decide) ?_
      subst hQe
      subst hAe
      subst hsz
      exact g_zret hx hb hr hlocks rfl () (by first | (rw [hpl]; rfl) | (rw [isPl_t ha hb_, plc_nI ha hb_, decide_eq_true hp1, decide_eq_true hz]; rfl) | (rw [isPl_t ha hb_, plc_nI ha hb_, decide_eq_false hz, Bool.and_false]; rfl) | (rw [isPl_t ha hb_, decide_eq_false hp1]; rfl)) hP hK hD hS dX0_isFree_38
    · skip
      have hp1 : px < 100 := by have := mt (nI_leI (a := 100) (b := px) (by omega) (by omega)).mpr c14; omega
      have hk6 := hkd (16 * b + a)
      refine lv_aload_n hx hb dX0_isFree_17 rfl (lv_at hl 0 rfl) ?_
      refine va_get (D := D) (ci := 1) (v := .ref ka_) (C := RX0) (T := TX0) (N := 7) hx hb hts in_X0 hown hK hP 0 rfl rfl 0 (by decide) f_11 (fun _ h9 => h9) rfl dX0_isFree_18 ?_
      refine lv_bipush (v := 16) hx hb dX0_isFree_21 (by decide) ?_
      refine lv_iload_n hx hb dX0_isFree_23 rfl (lv_at hl 2 rfl) ?_
      refine lv_imul hx hb dX0_isFree_24 ?_
      refine lv_topi (fun x24 ex24 => ?_)
      obtain rfl : x24 = nI (16 * b) := by rw [ex24]; exact pk_mul 16 _
      refine lv_iload_n hx hb dX0_isFree_25 rfl (lv_at hl 1 rfl) ?_
      refine lv_iadd hx hb dX0_isFree_26 ?_
      refine lv_topi (fun x26 ex26 => ?_)
      obtain rfl : x26 = nI (16 * b + a) := by rw [ex26]; exact nI_add _ _
      refine va_iald hx hb hK hP (1) 0 rfl rfl (by first | exact vp_in_nI (by omega) (by omega) | assumption) dX0_isFree_27 ?_
      refine lv_topi (fun x27 ex27 => ?_)
      rw [nI_clamp (by omega)] at ex27
      obtain rfl : x27 = nI (kd (16 * b + a)) - 2 := by exact ex27
      refine lv_bipush (v := -2) hx hb dX0_isFree_28 (by decide) ?_
      refine lv_icmp_ne (tgt := 37) hx hb dX0_isFree_30 (by decide) (fun c30 => ?_) (fun c30 => ?_)
      · skip
        have hz : ¬ kd (16 * b + a) = 0 := fun h => c30 ((k2_un (by omega)).mpr h)
        refine lv_iconst (v := 0) hx hb dX0_isFree_37 (by decide) ?_
        subst hQe
        subst hAe
        subst hsz
        exact g_zret hx hb hr hlocks rfl () (by first | (rw [hpl]; rfl) | (rw [isPl_t ha hb_, plc_nI ha hb_, decide_eq_true hp1, decide_eq_true hz]; rfl) | (rw [isPl_t ha hb_, plc_nI ha hb_, decide_eq_false hz, Bool.and_false]; rfl) | (rw [isPl_t ha hb_, decide_eq_false hp1]; rfl)) hP hK hD hS dX0_isFree_38
      · skip
        have hz : kd (16 * b + a) = 0 := (k2_un (by omega)).mp c30
        refine lv_iconst (v := 1) hx hb dX0_isFree_33 (by decide) ?_
        refine lv_goto (tgt := 38) hx hb dX0_isFree_34 (by decide) ?_
        subst hQe
        subst hAe
        subst hsz
        exact g_zret hx hb hr hlocks rfl () (by first | (rw [hpl]; rfl) | (rw [isPl_t ha hb_, plc_nI ha hb_, decide_eq_true hp1, decide_eq_true hz]; rfl) | (rw [isPl_t ha hb_, plc_nI ha hb_, decide_eq_false hz, Bool.and_false]; rfl) | (rw [isPl_t ha hb_, decide_eq_false hp1]; rfl)) hP hK hD hS dX0_isFree_38
abbrev rX0_hasPiece : Room := { frames := 0, cells := 0, slots := 0, locals := 0 }
set_option maxHeartbeats 4000000 in
set_option maxRecDepth 100000 in
theorem c_X0_hasPiece (l : Launch) (D : va_G) (cI cJ cG : ClassId) (sz : Nat) (R : va_W) (b_ ka_ na_ jo_ me_ : Nat) (kd me : Nat → Nat) (px pcs : Nat) (bt : Bst) (x : Int32) (hp : pcs ≤ 256) : Met l yX0_hasPiece wsX0_hasPiece rX0_hasPiece (gP D (tyl cI cJ cG) [.ref b_, .int x] ((b_, .inr (1, [.ref ka_, .ref na_, .ref jo_, .ref me_, .int (nI bt.2.2), .int (nI px), .int (nI pcs)])) :: (ka_, .inl (cI, 256, .inl (k2 kd))) :: (na_, .inl (cI, 256, .inl (l1 bt.1))) :: (jo_, .inl (cI, 100, .inl (nf bt.2.1))) :: (me_, .inl (cI, 100, .inl (nf me))) :: R) sz) (gQi D (tyl cI cJ cG) ((b_, .inr (1, [.ref ka_, .ref na_, .ref jo_, .ref me_, .int (nI bt.2.2), .int (nI px), .int (nI pcs)])) :: (ka_, .inl (cI, 256, .inl (k2 kd))) :: (na_, .inl (cI, 256, .inl (l1 bt.1))) :: (jo_, .inl (cI, 100, .inl (nf bt.2.1))) :: (me_, .inl (cI, 100, .inl (nf me))) :: R) sz (fun r (_ : Unit) => r = bI (inB x pcs)) (fun _ => ((b_, .inr (1, [.ref ka_, .ref na_, .ref jo_, .ref me_, .int (nI bt.2.2), .int (nI px), .int (nI pcs)])) :: (ka_, .inl (cI, 256, .inl (k2 kd))) :: (na_, .inl (cI, 256, .inl (l1 bt.1))) :: (jo_, .inl (cI, 100, .inl (nf bt.2.1))) :: (me_, .inl (cI, 100, .inl (nf me))) :: R))) 0 0 (va_A ((b_, .inr (1, [.ref ka_, .ref na_, .ref jo_, .ref me_, .int (nI bt.2.2), .int (nI px), .int (nI pcs)])) :: (ka_, .inl (cI, 256, .inl (k2 kd))) :: (na_, .inl (cI, 256, .inl (l1 bt.1))) :: (jo_, .inl (cI, 100, .inl (nf bt.2.1))) :: (me_, .inl (cI, 100, .inl (nf me))) :: R) sz) := by
  refine gMet (cc := cX0_hasPiece) (maxL := 2) (ret := (some .boolean)) (ls0 := [(0, .ref b_), (1, .int x)]) (by decide) rfl (Nat.le_of_ble_eq_true rfl) rfl ?_
  intro p e s m below meth c hx hb hr hts hown hlocks hml hname A hA hAe hsz Q hQe H locs hP hK hD hS ls hl
  have hown : s.vm.findClass RX0 = some m.cls := hown
  have in_X0 : ∀ w ∈ wsX00, w ∈ wsX0_hasPiece := by decide +kernel
  have f_37 := hts (.fieldLink RX0 37 "SpectrumHeads$Belt" "pieces" "I") (by decide +kernel)
  refine lv_iload_n hx hb dX0_hasPiece_0 rfl (lv_at hl 1 rfl) ?_
  refine lv_if_lt (tgt := 16) hx hb dX0_hasPiece_1 (by decide) (fun c1 => ?_) (fun c1 => ?_)
  · skip
    refine lv_iconst (v := 0) hx hb dX0_hasPiece_16 (by decide) ?_
    subst hQe
    subst hAe
    subst hsz
    exact g_zret hx hb hr hlocks rfl () (by first | (rw [inB_f1 c1]; rfl) | (rw [inB_f2 (n := pcs) (by omega) c9]; rfl) | (rw [inB_t (n := pcs) (by omega) c1 c9]; rfl)) hP hK hD hS dX0_hasPiece_17
  · skip
    refine lv_iload_n hx hb dX0_hasPiece_4 rfl (lv_at hl 1 rfl) ?_
    refine lv_aload_n hx hb dX0_hasPiece_5 rfl (lv_at hl 0 rfl) ?_
    refine va_get (D := D) (ci := 1) (v := .int (nI pcs)) (C := RX0) (T := TX0) (N := 7) hx hb hts in_X0 hown hK hP 0 rfl rfl 6 (by decide) f_37 (fun _ h9 => h9) rfl dX0_hasPiece_6 ?_
    refine lv_icmp_ge (tgt := 16) hx hb dX0_hasPiece_9 (by decide) (fun c9 => ?_) (fun c9 => ?_)
    · skip
      refine lv_iconst (v := 0) hx hb dX0_hasPiece_16 (by decide) ?_
      subst hQe
      subst hAe
      subst hsz
      exact g_zret hx hb hr hlocks rfl () (by first | (rw [inB_f1 c1]; rfl) | (rw [inB_f2 (n := pcs) (by omega) c9]; rfl) | (rw [inB_t (n := pcs) (by omega) c1 c9]; rfl)) hP hK hD hS dX0_hasPiece_17
    · skip
      refine lv_iconst (v := 1) hx hb dX0_hasPiece_12 (by decide) ?_
      refine lv_goto (tgt := 17) hx hb dX0_hasPiece_13 (by decide) ?_
      subst hQe
      subst hAe
      subst hsz
      exact g_zret hx hb hr hlocks rfl () (by first | (rw [inB_f1 c1]; rfl) | (rw [inB_f2 (n := pcs) (by omega) c9]; rfl) | (rw [inB_t (n := pcs) (by omega) c1 c9]; rfl)) hP hK hD hS dX0_hasPiece_17
abbrev rX0_pieceAt : Room := { frames := 1, cells := 0, slots := 0, locals := 21 }
set_option maxHeartbeats 4000000 in
set_option maxRecDepth 100000 in
theorem c_X0_pieceAt (l : Launch) (D : va_G) (cI cJ cG : ClassId) (sz : Nat) (R : va_W) (b_ ka_ na_ jo_ me_ : Nat) (kd me : Nat → Nat) (px pcs : Nat) (bt : Bst) (x y : Int32) : Met l yX0_pieceAt wsX0_pieceAt rX0_pieceAt (gP D (tyl cI cJ cG) [.ref b_, .int x, .int y] ((b_, .inr (1, [.ref ka_, .ref na_, .ref jo_, .ref me_, .int (nI bt.2.2), .int (nI px), .int (nI pcs)])) :: (ka_, .inl (cI, 256, .inl (k2 kd))) :: (na_, .inl (cI, 256, .inl (l1 bt.1))) :: (jo_, .inl (cI, 100, .inl (nf bt.2.1))) :: (me_, .inl (cI, 100, .inl (nf me))) :: R) sz) (gQi D (tyl cI cJ cG) ((b_, .inr (1, [.ref ka_, .ref na_, .ref jo_, .ref me_, .int (nI bt.2.2), .int (nI px), .int (nI pcs)])) :: (ka_, .inl (cI, 256, .inl (k2 kd))) :: (na_, .inl (cI, 256, .inl (l1 bt.1))) :: (jo_, .inl (cI, 100, .inl (nf bt.2.1))) :: (me_, .inl (cI, 100, .inl (nf me))) :: R) sz (fun r (_ : Unit) => r = paN bt.1 x y) (fun _ => ((b_, .inr (1, [.ref ka_, .ref na_, .ref jo_, .ref me_, .int (nI bt.2.2), .int (nI px), .int (nI pcs)])) :: (ka_, .inl (cI, 256, .inl (k2 kd))) :: (na_, .inl (cI, 256, .inl (l1 bt.1))) :: (jo_, .inl (cI, 100, .inl (nf bt.2.1))) :: (me_, .inl (cI, 100, .inl (nf me))) :: R))) 0 0 (va_A ((b_, .inr (1, [.ref ka_, .ref na_, .ref jo_, .ref me_, .int (nI bt.2.2), .int (nI px), .int (nI pcs)])) :: (ka_, .inl (cI, 256, .inl (k2 kd))) :: (na_, .inl (cI, 256, .inl (l1 bt.1))) :: (jo_, .inl (cI, 100, .inl (nf bt.2.1))) :: (me_, .inl (cI, 100, .inl (nf me))) :: R) sz) := by
  refine gMet (cc := cX0_pieceAt) (maxL := 3) (ret := (some .int)) (ls0 := [(0, .ref b_), (1, .int x), (2, .int y)]) (by decide) rfl (Nat.le_of_ble_eq_true rfl) rfl ?_
  intro p e s m below meth c hx hb hr hts hown hlocks hml hname A hA hAe hsz Q hQe H locs hP hK hD hS ls hl
  have hown : s.vm.findClass RX0 = some m.cls := hown
  have in_X0 : ∀ w ∈ wsX00, w ∈ wsX0_pieceAt := by decide +kernel
  have f_15 := hts (.fieldLink RX0 15 "SpectrumHeads$Belt" "numberAt" "[I") (by decide +kernel)
  refine lv_iload_n hx hb dX0_pieceAt_0 rfl (lv_at hl 1 rfl) ?_
  refine lv_iload_n hx hb dX0_pieceAt_1 rfl (lv_at hl 2 rfl) ?_
  refine gc_Si (As := [.int x, .int y]) (rest := []) ⟨hx, hb, hml, hown, hts⟩ (c_X0_isPlace l D cI cJ cG H.size ((b_, .inr (1, [.ref ka_, .ref na_, .ref jo_, .ref me_, .int (nI bt.2.2), .int (nI px), .int (nI pcs)])) :: (ka_, .inl (cI, 256, .inl (k2 kd))) :: (na_, .inl (cI, 256, .inl (l1 bt.1))) :: (jo_, .inl (cI, 100, .inl (nf bt.2.1))) :: (me_, .inl (cI, 100, .inl (nf me))) :: R) x y) (va_cwS 2 hts gX0_pieceAt_X0_isPlace rfl rfl rfl (by decide +kernel) ⟨Nat.le_of_ble_eq_true rfl, Nat.le_of_ble_eq_true rfl⟩) hK hP hD hS hA rfl hl.1 rfl (Nat.le_of_ble_eq_true rfl) dX0_pieceAt_2 ⟨Nat.le_of_ble_eq_true rfl, Nat.le_of_ble_eq_true rfl⟩ (fun r2 u2 H locs h2 hP hD hS => ?_)
  subst h2
  have hP : va_P D vwCl ((b_, .inr (1, [.ref ka_, .ref na_, .ref jo_, .ref me_, .int (nI bt.2.2), .int (nI px), .int (nI pcs)])) :: (ka_, .inl (cI, 256, .inl (k2 kd))) :: (na_, .inl (cI, 256, .inl (l1 bt.1))) :: (jo_, .inl (cI, 100, .inl (nf bt.2.1))) :: (me_, .inl (cI, 100, .inl (nf me))) :: R) H := hP
  have hD : va_D A ((b_, .inr (1, [.ref ka_, .ref na_, .ref jo_, .ref me_, .int (nI bt.2.2), .int (nI px), .int (nI pcs)])) :: (ka_, .inl (cI, 256, .inl (k2 kd))) :: (na_, .inl (cI, 256, .inl (l1 bt.1))) :: (jo_, .inl (cI, 100, .inl (nf bt.2.1))) :: (me_, .inl (cI, 100, .inl (nf me))) :: R) := hD
  refine lv_if_eq (tgt := 22) hx hb dX0_pieceAt_5 (by decide) (fun c5 => ?_) (fun c5 => ?_)
  · skip
    have hpl := bI_0.mp c5
    refine lv_iconst (v := -1) hx hb dX0_pieceAt_22 (by decide) ?_
    subst hQe
    subst hAe
    subst hsz
    exact g_iret hx hb hr hlocks () (by first | (unfold paN; rw [hpl]; rfl) | (unfold paN; rw [if_pos (isPl_t ha hb_), plc_nI ha hb_]; exact ex18)) hP hK hD hS dX0_pieceAt_23
  · skip
    have hpl := bI_n0.mp c5
    obtain ⟨a, b, ha, hb_, rfl, rfl⟩ := isPl hpl
    refine lv_aload_n hx hb dX0_pieceAt_8 rfl (lv_at hl 0 rfl) ?_
    refine va_get (D := D) (ci := 1) (v := .ref na_) (C := RX0) (T := TX0) (N := 7) hx hb hts in_X0 hown hK hP 0 rfl rfl 1 (by decide) f_15 (fun _ h9 => h9) rfl dX0_pieceAt_9 ?_
    refine lv_bipush (v := 16) hx hb dX0_pieceAt_12 (by decide) ?_
    refine lv_iload_n hx hb dX0_pieceAt_14 rfl (lv_at hl 2 rfl) ?_
    refine lv_imul hx hb dX0_pieceAt_15 ?_
    refine lv_topi (fun x15 ex15 => ?_)
    obtain rfl : x15 = nI (16 * b) := by rw [ex15]; exact pk_mul 16 _
    refine lv_iload_n hx hb dX0_pieceAt_16 rfl (lv_at hl 1 rfl) ?_
    refine lv_iadd hx hb dX0_pieceAt_17 ?_
    refine lv_topi (fun x17 ex17 => ?_)
    obtain rfl : x17 = nI (16 * b + a) := by rw [ex17]; exact nI_add _ _
    refine va_iald hx hb hK hP (2) 0 rfl rfl (by first | exact vp_in_nI (by omega) (by omega) | assumption) dX0_pieceAt_18 ?_
    refine lv_topi (fun x18 ex18 => ?_)
    rw [nI_clamp (by omega)] at ex18
    refine lv_goto (tgt := 23) hx hb dX0_pieceAt_19 (by decide) ?_
    subst hQe
    subst hAe
    subst hsz
    exact g_iret hx hb hr hlocks () (by first | (unfold paN; rw [hpl]; rfl) | (unfold paN; rw [if_pos (isPl_t ha hb_), plc_nI ha hb_]; exact ex18)) hP hK hD hS dX0_pieceAt_23
abbrev rX0_join : Room := { frames := 1, cells := 0, slots := 0, locals := 21 }
set_option maxHeartbeats 4000000 in
set_option maxRecDepth 100000 in
theorem c_X0_join (l : Launch) (D : va_G) (cI cJ cG : ClassId) (sz : Nat) (R : va_W) (b_ ka_ na_ jo_ me_ : Nat) (kd me : Nat → Nat) (px pcs : Nat) (bt : Bst) (x y : Int32) (hkd : ∀ p, kd p ≤ 6) (hbt : Bok bt) (hp : pcs ≤ 255) : Met l yX0_join wsX0_join rX0_join (gP D (tyl cI cJ cG) [.ref b_, .int x, .int y] ((b_, .inr (1, [.ref ka_, .ref na_, .ref jo_, .ref me_, .int (nI bt.2.2), .int (nI px), .int (nI pcs)])) :: (ka_, .inl (cI, 256, .inl (k2 kd))) :: (na_, .inl (cI, 256, .inl (l1 bt.1))) :: (jo_, .inl (cI, 100, .inl (nf bt.2.1))) :: (me_, .inl (cI, 100, .inl (nf me))) :: R) sz) (gQv D (tyl cI cJ cG) ((b_, .inr (1, [.ref ka_, .ref na_, .ref jo_, .ref me_, .int (nI bt.2.2), .int (nI px), .int (nI pcs)])) :: (ka_, .inl (cI, 256, .inl (k2 kd))) :: (na_, .inl (cI, 256, .inl (l1 bt.1))) :: (jo_, .inl (cI, 100, .inl (nf bt.2.1))) :: (me_, .inl (cI, 100, .inl (nf me))) :: R) sz (fun (u : Bst) => u = joinS kd (pcs + 1) x y bt) (fun u => ((b_, .inr (1, [.ref ka_, .ref na_, .ref jo_, .ref me_, .int (nI u.2.2), .int (nI px), .int (nI pcs)])) :: (ka_, .inl (cI, 256, .inl (k2 kd))) :: (na_, .inl (cI, 256, .inl (l1 u.1))) :: (jo_, .inl (cI, 100, .inl (nf u.2.1))) :: (me_, .inl (cI, 100, .inl (nf me))) :: R))) 0 0 (va_A ((b_, .inr (1, [.ref ka_, .ref na_, .ref jo_, .ref me_, .int (nI bt.2.2), .int (nI px), .int (nI pcs)])) :: (ka_, .inl (cI, 256, .inl (k2 kd))) :: (na_, .inl (cI, 256, .inl (l1 bt.1))) :: (jo_, .inl (cI, 100, .inl (nf bt.2.1))) :: (me_, .inl (cI, 100, .inl (nf me))) :: R) sz) := by
  refine gMet (cc := cX0_join) (maxL := 4) (ret := none) (ls0 := [(0, .ref b_), (1, .int x), (2, .int y)]) (by decide) rfl (Nat.le_of_ble_eq_true rfl) rfl ?_
  intro p e s m below meth c hx hb hr hts hown hlocks hml hname A hA hAe hsz Q hQe H locs hP hK hD hS ls hl
  have hown : s.vm.findClass RX0 = some m.cls := hown
  have in_X0 : ∀ w ∈ wsX00, w ∈ wsX0_join := by decide +kernel
  have f_30 := hts (.fieldLink RX0 30 "SpectrumHeads$Belt" "joinedCount" "I") (by decide +kernel)
  have f_11 := hts (.fieldLink RX0 11 "SpectrumHeads$Belt" "kindAt" "[I") (by decide +kernel)
  have f_15 := hts (.fieldLink RX0 15 "SpectrumHeads$Belt" "numberAt" "[I") (by decide +kernel)
  have f_37 := hts (.fieldLink RX0 37 "SpectrumHeads$Belt" "pieces" "I") (by decide +kernel)
  have f_18 := hts (.fieldLink RX0 18 "SpectrumHeads$Belt" "joined" "[I") (by decide +kernel)
  have hjc := hbt.2.2
  refine lv_iload_n hx hb dX0_join_0 rfl (lv_at hl 1 rfl) ?_
  refine lv_iload_n hx hb dX0_join_1 rfl (lv_at hl 2 rfl) ?_
  refine gc_Si (As := [.int x, .int y]) (rest := []) ⟨hx, hb, hml, hown, hts⟩ (c_X0_isPlace l D cI cJ cG H.size ((b_, .inr (1, [.ref ka_, .ref na_, .ref jo_, .ref me_, .int (nI bt.2.2), .int (nI px), .int (nI pcs)])) :: (ka_, .inl (cI, 256, .inl (k2 kd))) :: (na_, .inl (cI, 256, .inl (l1 bt.1))) :: (jo_, .inl (cI, 100, .inl (nf bt.2.1))) :: (me_, .inl (cI, 100, .inl (nf me))) :: R) x y) (va_cwS 2 hts gX0_join_X0_isPlace rfl rfl rfl (by decide +kernel) ⟨Nat.le_of_ble_eq_true rfl, Nat.le_of_ble_eq_true rfl⟩) hK hP hD hS hA rfl hl.1 rfl (Nat.le_of_ble_eq_true rfl) dX0_join_2 ⟨Nat.le_of_ble_eq_true rfl, Nat.le_of_ble_eq_true rfl⟩ (fun r2 u2 H locs h2 hP hD hS => ?_)
  subst h2
  have hP : va_P D vwCl ((b_, .inr (1, [.ref ka_, .ref na_, .ref jo_, .ref me_, .int (nI bt.2.2), .int (nI px), .int (nI pcs)])) :: (ka_, .inl (cI, 256, .inl (k2 kd))) :: (na_, .inl (cI, 256, .inl (l1 bt.1))) :: (jo_, .inl (cI, 100, .inl (nf bt.2.1))) :: (me_, .inl (cI, 100, .inl (nf me))) :: R) H := hP
  have hD : va_D A ((b_, .inr (1, [.ref ka_, .ref na_, .ref jo_, .ref me_, .int (nI bt.2.2), .int (nI px), .int (nI pcs)])) :: (ka_, .inl (cI, 256, .inl (k2 kd))) :: (na_, .inl (cI, 256, .inl (l1 bt.1))) :: (jo_, .inl (cI, 100, .inl (nf bt.2.1))) :: (me_, .inl (cI, 100, .inl (nf me))) :: R) := hD
  refine lv_if_eq (tgt := 17) hx hb dX0_join_5 (by decide) (fun c5 => ?_) (fun c5 => ?_)
  · skip
    have hpl := bI_0.mp c5
    have hno : bt = joinS kd (pcs + 1) x y bt := (if_neg (fun h => by rw [hpl] at h; cases h.1)).symm
    subst hQe
    subst hAe
    subst hsz
    exact g_vret hx hb hr hlocks bt hno hP hK hD hS dX0_join_17
  · skip
    have hpl := bI_n0.mp c5
    obtain ⟨a, b, ha, hb_, rfl, rfl⟩ := isPl hpl
    refine lv_aload_n hx hb dX0_join_8 rfl (lv_at hl 0 rfl) ?_
    refine va_get (D := D) (ci := 1) (v := .int (nI bt.2.2)) (C := RX0) (T := TX0) (N := 7) hx hb hts in_X0 hown hK hP 0 rfl rfl 4 (by decide) f_30 (fun _ h9 => h9) rfl dX0_join_9 ?_
    refine lv_bipush (v := 100) hx hb dX0_join_12 (by decide) ?_
    refine lv_icmp_lt (tgt := 18) hx hb dX0_join_14 (by decide) (fun c14 => ?_) (fun c14 => ?_)
    · skip
      have hj1 : bt.2.2 < 100 := (nI_ltI (b := 100) (by omega) (by omega)).mp c14
      have hk6 := hkd (16 * b + a)
      have hl6 := hbt.1 (16 * b + a)
      refine lv_bipush (v := 16) hx hb dX0_join_18 (by decide) ?_
      refine lv_iload_n hx hb dX0_join_20 rfl (lv_at hl 2 rfl) ?_
      refine lv_imul hx hb dX0_join_21 ?_
      refine lv_topi (fun x21 ex21 => ?_)
      obtain rfl : x21 = nI (16 * b) := by rw [ex21]; exact pk_mul 16 _
      refine lv_iload_n hx hb dX0_join_22 rfl (lv_at hl 1 rfl) ?_
      refine lv_iadd hx hb dX0_join_23 ?_
      refine lv_topi (fun x23 ex23 => ?_)
      obtain rfl : x23 = nI (16 * b + a) := by rw [ex23]; exact nI_add _ _
      refine lv_istore_n (lv' := [(3, .int (nI (16 * b + a))), (0, .ref b_), (1, .int (nI a)), (2, .int (nI b))]) hx hb dX0_join_24 rfl hl (by decide) rfl (fun ls hl => ?_)
      refine lv_aload_n hx hb dX0_join_25 rfl (lv_at hl 1 rfl) ?_
      refine va_get (D := D) (ci := 1) (v := .ref ka_) (C := RX0) (T := TX0) (N := 7) hx hb hts in_X0 hown hK hP 0 rfl rfl 0 (by decide) f_11 (fun _ h9 => h9) rfl dX0_join_26 ?_
      refine lv_iload_n hx hb dX0_join_29 rfl (lv_at hl 0 rfl) ?_
      refine va_iald hx hb hK hP (1) 0 rfl rfl (by first | exact vp_in_nI (by omega) (by omega) | assumption) dX0_join_30 ?_
      refine lv_topi (fun x30 ex30 => ?_)
      rw [nI_clamp (by omega)] at ex30
      obtain rfl : x30 = nI (kd (16 * b + a)) - 2 := by exact ex30
      refine lv_if_lt (tgt := 74) hx hb dX0_join_31 (by decide) (fun c31 => ?_) (fun c31 => ?_)
      · skip
        have hno : bt = joinS kd (pcs + 1) (nI a) (nI b) bt := (if_neg (fun h => by have h3 := h.2.2.1; rw [plc_nI ha hb_] at h3; have := (k2_neg (by omega)).mp c31; omega)).symm
        subst hQe
        subst hAe
        subst hsz
        exact g_vret hx hb hr hlocks bt hno hP hK hD hS dX0_join_74
      · skip
        have hk2 : 2 ≤ kd (16 * b + a) := by have := mt (k2_neg (by omega)).mpr c31; omega
        refine lv_aload_n hx hb dX0_join_34 rfl (lv_at hl 1 rfl) ?_
        refine va_get (D := D) (ci := 1) (v := .ref na_) (C := RX0) (T := TX0) (N := 7) hx hb hts in_X0 hown hK hP 0 rfl rfl 1 (by decide) f_15 (fun _ h9 => h9) rfl dX0_join_35 ?_
        refine lv_iload_n hx hb dX0_join_38 rfl (lv_at hl 0 rfl) ?_
        refine va_iald hx hb hK hP (2) 0 rfl rfl (by first | exact vp_in_nI (by omega) (by omega) | assumption) dX0_join_39 ?_
        refine lv_topi (fun x39 ex39 => ?_)
        rw [nI_clamp (by omega)] at ex39
        obtain rfl : x39 = nI (bt.1 (16 * b + a)) - 1 := by exact ex39
        refine lv_iconst (v := -1) hx hb dX0_join_40 (by decide) ?_
        refine lv_icmp_ne (tgt := 74) hx hb dX0_join_41 (by decide) (fun c41 => ?_) (fun c41 => ?_)
        · skip
          have hno : bt = joinS kd (pcs + 1) (nI a) (nI b) bt := (if_neg (fun h => by have h3 := h.2.2.2; rw [plc_nI ha hb_] at h3; exact c41 ((l1_none (by omega)).mpr h3))).symm
          subst hQe
          subst hAe
          subst hsz
          exact g_vret hx hb hr hlocks bt hno hP hK hD hS dX0_join_74
        · skip
          have hl0 : bt.1 (16 * b + a) = 0 := (l1_none (by omega)).mp c41
          have hyes : (un bt.1 (16 * b + a) (pcs + 1), un bt.2.1 bt.2.2 (16 * b + a), bt.2.2 + 1) = joinS kd (pcs + 1) (nI a) (nI b) bt := by unfold joinS; rw [plc_nI ha hb_, if_pos ⟨hpl, hj1, hk2, hl0⟩]
          refine lv_aload_n hx hb dX0_join_44 rfl (lv_at hl 1 rfl) ?_
          refine va_get (D := D) (ci := 1) (v := .ref na_) (C := RX0) (T := TX0) (N := 7) hx hb hts in_X0 hown hK hP 0 rfl rfl 1 (by decide) f_15 (fun _ h9 => h9) rfl dX0_join_45 ?_
          refine lv_iload_n hx hb dX0_join_48 rfl (lv_at hl 0 rfl) ?_
          refine lv_aload_n hx hb dX0_join_49 rfl (lv_at hl 1 rfl) ?_
          refine va_get (D := D) (ci := 1) (v := .int (nI pcs)) (C := RX0) (T := TX0) (N := 7) hx hb hts in_X0 hown hK hP 0 rfl rfl 6 (by decide) f_37 (fun _ h9 => h9) rfl dX0_join_50 ?_
          refine va_iast hx hb hK hP hD hS 2 0 rfl rfl (by first | exact vp_in_nI (by omega) (by omega) | assumption) dX0_join_53 (fun H locs hP hD hS => ?_)
          rw [nI_clamp (by omega)] at hP hD
          have hP : va_P D vwCl ((b_, .inr (1, [.ref ka_, .ref na_, .ref jo_, .ref me_, .int (nI bt.2.2), .int (nI px), .int (nI pcs)])) :: (ka_, .inl (cI, 256, .inl (k2 kd))) :: (na_, .inl (cI, 256, .inl (upd (l1 bt.1) (16 * b + a) (nI pcs)))) :: (jo_, .inl (cI, 100, .inl (nf bt.2.1))) :: (me_, .inl (cI, 100, .inl (nf me))) :: R) H := hP
          have hD : va_D A ((b_, .inr (1, [.ref ka_, .ref na_, .ref jo_, .ref me_, .int (nI bt.2.2), .int (nI px), .int (nI pcs)])) :: (ka_, .inl (cI, 256, .inl (k2 kd))) :: (na_, .inl (cI, 256, .inl (upd (l1 bt.1) (16 * b + a) (nI pcs)))) :: (jo_, .inl (cI, 100, .inl (nf bt.2.1))) :: (me_, .inl (cI, 100, .inl (nf me))) :: R) := hD
          have hW_ : upd (l1 bt.1) (16 * b + a) (nI pcs) = l1 (un bt.1 (16 * b + a) (pcs + 1)) := by exact l1_upd _ _ _
          rw [hW_] at hP hD
          have hP : va_P D vwCl ((b_, .inr (1, [.ref ka_, .ref na_, .ref jo_, .ref me_, .int (nI bt.2.2), .int (nI px), .int (nI pcs)])) :: (ka_, .inl (cI, 256, .inl (k2 kd))) :: (na_, .inl (cI, 256, .inl (l1 (un bt.1 (16 * b + a) (pcs + 1))))) :: (jo_, .inl (cI, 100, .inl (nf bt.2.1))) :: (me_, .inl (cI, 100, .inl (nf me))) :: R) H := hP
          have hD : va_D A ((b_, .inr (1, [.ref ka_, .ref na_, .ref jo_, .ref me_, .int (nI bt.2.2), .int (nI px), .int (nI pcs)])) :: (ka_, .inl (cI, 256, .inl (k2 kd))) :: (na_, .inl (cI, 256, .inl (l1 (un bt.1 (16 * b + a) (pcs + 1))))) :: (jo_, .inl (cI, 100, .inl (nf bt.2.1))) :: (me_, .inl (cI, 100, .inl (nf me))) :: R) := hD
          refine lv_aload_n hx hb dX0_join_54 rfl (lv_at hl 1 rfl) ?_
          refine va_get (D := D) (ci := 1) (v := .ref jo_) (C := RX0) (T := TX0) (N := 7) hx hb hts in_X0 hown hK hP 0 rfl rfl 2 (by decide) f_18 (fun _ h9 => h9) rfl dX0_join_55 ?_
          refine lv_aload_n hx hb dX0_join_58 rfl (lv_at hl 1 rfl) ?_
          refine va_get (D := D) (ci := 1) (v := .int (nI bt.2.2)) (C := RX0) (T := TX0) (N := 7) hx hb hts in_X0 hown hK hP 0 rfl rfl 4 (by decide) f_30 (fun _ h9 => h9) rfl dX0_join_59 ?_
          refine lv_iload_n hx hb dX0_join_62 rfl (lv_at hl 0 rfl) ?_
          refine va_iast hx hb hK hP hD hS 3 0 rfl rfl (by first | exact vp_in_nI (by omega) (by omega) | assumption) dX0_join_63 (fun H locs hP hD hS => ?_)
          rw [nI_clamp (by omega)] at hP hD
          have hP : va_P D vwCl ((b_, .inr (1, [.ref ka_, .ref na_, .ref jo_, .ref me_, .int (nI bt.2.2), .int (nI px), .int (nI pcs)])) :: (ka_, .inl (cI, 256, .inl (k2 kd))) :: (na_, .inl (cI, 256, .inl (l1 (un bt.1 (16 * b + a) (pcs + 1))))) :: (jo_, .inl (cI, 100, .inl (upd (nf bt.2.1) bt.2.2 (nI (16 * b + a))))) :: (me_, .inl (cI, 100, .inl (nf me))) :: R) H := hP
          have hD : va_D A ((b_, .inr (1, [.ref ka_, .ref na_, .ref jo_, .ref me_, .int (nI bt.2.2), .int (nI px), .int (nI pcs)])) :: (ka_, .inl (cI, 256, .inl (k2 kd))) :: (na_, .inl (cI, 256, .inl (l1 (un bt.1 (16 * b + a) (pcs + 1))))) :: (jo_, .inl (cI, 100, .inl (upd (nf bt.2.1) bt.2.2 (nI (16 * b + a))))) :: (me_, .inl (cI, 100, .inl (nf me))) :: R) := hD
          have hW_ : upd (nf bt.2.1) bt.2.2 (nI (16 * b + a)) = nf (un bt.2.1 bt.2.2 (16 * b + a)) := by exact nf_upd _ _ _
          rw [hW_] at hP hD
          have hP : va_P D vwCl ((b_, .inr (1, [.ref ka_, .ref na_, .ref jo_, .ref me_, .int (nI bt.2.2), .int (nI px), .int (nI pcs)])) :: (ka_, .inl (cI, 256, .inl (k2 kd))) :: (na_, .inl (cI, 256, .inl (l1 (un bt.1 (16 * b + a) (pcs + 1))))) :: (jo_, .inl (cI, 100, .inl (nf (un bt.2.1 bt.2.2 (16 * b + a))))) :: (me_, .inl (cI, 100, .inl (nf me))) :: R) H := hP
          have hD : va_D A ((b_, .inr (1, [.ref ka_, .ref na_, .ref jo_, .ref me_, .int (nI bt.2.2), .int (nI px), .int (nI pcs)])) :: (ka_, .inl (cI, 256, .inl (k2 kd))) :: (na_, .inl (cI, 256, .inl (l1 (un bt.1 (16 * b + a) (pcs + 1))))) :: (jo_, .inl (cI, 100, .inl (nf (un bt.2.1 bt.2.2 (16 * b + a))))) :: (me_, .inl (cI, 100, .inl (nf me))) :: R) := hD
          refine lv_aload_n hx hb dX0_join_64 rfl (lv_at hl 1 rfl) ?_
          refine lv_dup hx hb dX0_join_65 rfl ?_
          refine va_get (D := D) (ci := 1) (v := .int (nI bt.2.2)) (C := RX0) (T := TX0) (N := 7) hx hb hts in_X0 hown hK hP 0 rfl rfl 4 (by decide) f_30 (fun _ h9 => h9) rfl dX0_join_66 ?_
          refine lv_iconst (v := 1) hx hb dX0_join_69 (by decide) ?_
          refine lv_iadd hx hb dX0_join_70 ?_
          refine lv_topi (fun x70 ex70 => ?_)
          obtain rfl : x70 = nI (bt.2.2 + 1) := by rw [ex70]; exact nI_1 _
          refine va_put (D := D) (ci := 1) (v := .int (nI (bt.2.2 + 1))) (ty := .int) (C := RX0) (T := TX0) (N := 7) hx hb hts in_X0 tyX0 tyX0_ok nmX0 hown hK hP hD hS 0 rfl rfl 4 (by decide) f_30 (fun _ h9 => h9) rfl (by decide +kernel) rfl rfl (Nat.le_of_ble_eq_true rfl) dX0_join_71 (fun H locs hP hD hS => ?_)
          have hP : va_P D vwCl ((b_, .inr (1, [.ref ka_, .ref na_, .ref jo_, .ref me_, .int (nI (bt.2.2 + 1)), .int (nI px), .int (nI pcs)])) :: (ka_, .inl (cI, 256, .inl (k2 kd))) :: (na_, .inl (cI, 256, .inl (l1 (un bt.1 (16 * b + a) (pcs + 1))))) :: (jo_, .inl (cI, 100, .inl (nf (un bt.2.1 bt.2.2 (16 * b + a))))) :: (me_, .inl (cI, 100, .inl (nf me))) :: R) H := hP
          have hD : va_D A ((b_, .inr (1, [.ref ka_, .ref na_, .ref jo_, .ref me_, .int (nI (bt.2.2 + 1)), .int (nI px), .int (nI pcs)])) :: (ka_, .inl (cI, 256, .inl (k2 kd))) :: (na_, .inl (cI, 256, .inl (l1 (un bt.1 (16 * b + a) (pcs + 1))))) :: (jo_, .inl (cI, 100, .inl (nf (un bt.2.1 bt.2.2 (16 * b + a))))) :: (me_, .inl (cI, 100, .inl (nf me))) :: R) := hD
          subst hQe
          subst hAe
          subst hsz
          exact g_vret hx hb hr hlocks (un bt.1 (16 * b + a) (pcs + 1), un bt.2.1 bt.2.2 (16 * b + a), bt.2.2 + 1) hyes hP hK hD hS dX0_join_74
    · skip
      have hno : bt = joinS kd (pcs + 1) (nI a) (nI b) bt := (if_neg (fun h => c14 ((nI_ltI (b := 100) (by omega) (by omega)).mpr h.2.1))).symm
      subst hQe
      subst hAe
      subst hsz
      exact g_vret hx hb hr hlocks bt hno hP hK hD hS dX0_join_17
abbrev rX0_joinFrom : Room := { frames := 2, cells := 0, slots := 0, locals := 44 }
set_option maxHeartbeats 4000000 in
set_option maxRecDepth 100000 in
theorem c_X0_joinFrom (l : Launch) (D : va_G) (cI cJ cG : ClassId) (sz : Nat) (R : va_W) (b_ ka_ na_ jo_ me_ : Nat) (kd me : Nat → Nat) (px pcs : Nat) (bt : Bst) (f : Nat) (hf : f < 256) (hkd : ∀ p, kd p ≤ 6) (hbt : Bok bt) (hp : pcs ≤ 255) : Met l yX0_joinFrom wsX0_joinFrom rX0_joinFrom (gP D (tyl cI cJ cG) [.ref b_, .int (nI f)] ((b_, .inr (1, [.ref ka_, .ref na_, .ref jo_, .ref me_, .int (nI bt.2.2), .int (nI px), .int (nI pcs)])) :: (ka_, .inl (cI, 256, .inl (k2 kd))) :: (na_, .inl (cI, 256, .inl (l1 bt.1))) :: (jo_, .inl (cI, 100, .inl (nf bt.2.1))) :: (me_, .inl (cI, 100, .inl (nf me))) :: R) sz) (gQv D (tyl cI cJ cG) ((b_, .inr (1, [.ref ka_, .ref na_, .ref jo_, .ref me_, .int (nI bt.2.2), .int (nI px), .int (nI pcs)])) :: (ka_, .inl (cI, 256, .inl (k2 kd))) :: (na_, .inl (cI, 256, .inl (l1 bt.1))) :: (jo_, .inl (cI, 100, .inl (nf bt.2.1))) :: (me_, .inl (cI, 100, .inl (nf me))) :: R) sz (fun (u : Bst) => u = joinF kd (pcs + 1) f bt) (fun u => ((b_, .inr (1, [.ref ka_, .ref na_, .ref jo_, .ref me_, .int (nI u.2.2), .int (nI px), .int (nI pcs)])) :: (ka_, .inl (cI, 256, .inl (k2 kd))) :: (na_, .inl (cI, 256, .inl (l1 u.1))) :: (jo_, .inl (cI, 100, .inl (nf u.2.1))) :: (me_, .inl (cI, 100, .inl (nf me))) :: R))) 0 0 (va_A ((b_, .inr (1, [.ref ka_, .ref na_, .ref jo_, .ref me_, .int (nI bt.2.2), .int (nI px), .int (nI pcs)])) :: (ka_, .inl (cI, 256, .inl (k2 kd))) :: (na_, .inl (cI, 256, .inl (l1 bt.1))) :: (jo_, .inl (cI, 100, .inl (nf bt.2.1))) :: (me_, .inl (cI, 100, .inl (nf me))) :: R) sz) := by
  refine gMet (cc := cX0_joinFrom) (maxL := 5) (ret := none) (ls0 := [(0, .ref b_), (1, .int (nI f))]) (by decide) rfl (Nat.le_of_ble_eq_true rfl) rfl ?_
  intro p e s m below meth c hx hb hr hts hown hlocks hml hname A hA hAe hsz Q hQe H locs hP hK hD hS ls hl
  have hown : s.vm.findClass RX0 = some m.cls := hown
  have in_X0 : ∀ w ∈ wsX00, w ∈ wsX0_joinFrom := by decide +kernel
  have f_30 := hts (.fieldLink RX0 30 "SpectrumHeads$Belt" "joinedCount" "I") (by decide +kernel)
  have f_18 := hts (.fieldLink RX0 18 "SpectrumHeads$Belt" "joined" "[I") (by decide +kernel)
  refine lv_aload_n hx hb dX0_joinFrom_0 rfl (lv_at hl 0 rfl) ?_
  refine lv_iconst (v := 0) hx hb dX0_joinFrom_1 (by decide) ?_
  refine va_put (D := D) (ci := 1) (v := .int 0) (ty := .int) (C := RX0) (T := TX0) (N := 7) hx hb hts in_X0 tyX0 tyX0_ok nmX0 hown hK hP hD hS 0 rfl rfl 4 (by decide) f_30 (fun _ h9 => h9) rfl (by decide +kernel) rfl rfl (Nat.le_of_ble_eq_true rfl) dX0_joinFrom_2 (fun H locs hP hD hS => ?_)
  have hP : va_P D vwCl ((b_, .inr (1, [.ref ka_, .ref na_, .ref jo_, .ref me_, .int 0, .int (nI px), .int (nI pcs)])) :: (ka_, .inl (cI, 256, .inl (k2 kd))) :: (na_, .inl (cI, 256, .inl (l1 bt.1))) :: (jo_, .inl (cI, 100, .inl (nf bt.2.1))) :: (me_, .inl (cI, 100, .inl (nf me))) :: R) H := hP
  have hD : va_D A ((b_, .inr (1, [.ref ka_, .ref na_, .ref jo_, .ref me_, .int 0, .int (nI px), .int (nI pcs)])) :: (ka_, .inl (cI, 256, .inl (k2 kd))) :: (na_, .inl (cI, 256, .inl (l1 bt.1))) :: (jo_, .inl (cI, 100, .inl (nf bt.2.1))) :: (me_, .inl (cI, 100, .inl (nf me))) :: R) := hD
  refine lv_aload_n hx hb dX0_joinFrom_5 rfl (lv_at hl 0 rfl) ?_
  refine lv_iload_n hx hb dX0_joinFrom_6 rfl (lv_at hl 1 rfl) ?_
  refine lv_bipush (v := 16) hx hb dX0_joinFrom_7 (by decide) ?_
  refine lv_irem hx hb dX0_joinFrom_9 (by decide) ?_
  refine lv_topi (fun x9 ex9 => ?_)
  obtain rfl : x9 = nI (f % 16) := by rw [ex9]; exact pk_rem (d := 16) (by omega) (by omega) (by omega)
  refine lv_iload_n hx hb dX0_joinFrom_10 rfl (lv_at hl 1 rfl) ?_
  refine lv_bipush (v := 16) hx hb dX0_joinFrom_11 (by decide) ?_
  refine lv_idiv hx hb dX0_joinFrom_13 (by decide) ?_
  refine lv_topi (fun x13 ex13 => ?_)
  obtain rfl : x13 = nI (f / 16) := by rw [ex13]; exact pk_div (d := 16) (by omega) (by omega) (by omega)
  refine gc_Vv (As := [.int (nI (f % 16)), .int (nI (f / 16))]) (rest := []) (ci := 1) (q0 := 0) ⟨hx, hb, hml, hown, hts⟩ (c_X0_join l D cI cJ cG H.size R b_ ka_ na_ jo_ me_ kd me px pcs (bt.1, bt.2.1, 0) (nI (f % 16)) (nI (f / 16)) hkd ⟨hbt.1, hbt.2.1, Nat.zero_le _⟩ hp) (cwV 2 hts gX0_joinFrom_X0_join rfl rfl rfl (by decide +kernel) ⟨Nat.le_of_ble_eq_true rfl, Nat.le_of_ble_eq_true rfl⟩) rfl rfl rfl hK hP hD hS hA rfl hl.1 rfl (Nat.le_of_ble_eq_true rfl) dX0_joinFrom_14 ⟨Nat.le_of_ble_eq_true rfl, Nat.le_of_ble_eq_true rfl⟩ (fun u14 H locs h14 hP hD hS => ?_)
  subst h14
  have hP : va_P D vwCl ((b_, .inr (1, [.ref ka_, .ref na_, .ref jo_, .ref me_, .int (nI ((joinS kd (pcs + 1) (nI (f % 16)) (nI (f / 16)) (bt.1, bt.2.1, 0)).2.2)), .int (nI px), .int (nI pcs)])) :: (ka_, .inl (cI, 256, .inl (k2 kd))) :: (na_, .inl (cI, 256, .inl (l1 ((joinS kd (pcs + 1) (nI (f % 16)) (nI (f / 16)) (bt.1, bt.2.1, 0)).1)))) :: (jo_, .inl (cI, 100, .inl (nf ((joinS kd (pcs + 1) (nI (f % 16)) (nI (f / 16)) (bt.1, bt.2.1, 0)).2.1)))) :: (me_, .inl (cI, 100, .inl (nf me))) :: R) H := hP
  have hD : va_D A ((b_, .inr (1, [.ref ka_, .ref na_, .ref jo_, .ref me_, .int (nI ((joinS kd (pcs + 1) (nI (f % 16)) (nI (f / 16)) (bt.1, bt.2.1, 0)).2.2)), .int (nI px), .int (nI pcs)])) :: (ka_, .inl (cI, 256, .inl (k2 kd))) :: (na_, .inl (cI, 256, .inl (l1 ((joinS kd (pcs + 1) (nI (f % 16)) (nI (f / 16)) (bt.1, bt.2.1, 0)).1)))) :: (jo_, .inl (cI, 100, .inl (nf ((joinS kd (pcs + 1) (nI (f % 16)) (nI (f / 16)) (bt.1, bt.2.1, 0)).2.1)))) :: (me_, .inl (cI, 100, .inl (nf me))) :: R) := hD
  refine lv_iconst (v := 0) hx hb dX0_joinFrom_17 (by decide) ?_
  refine lv_istore_n (lv' := [(2, .int 0), (0, .ref b_), (1, .int (nI f))]) hx hb dX0_joinFrom_18 rfl hl (by decide) rfl (fun ls hl => ?_)
  have L_19 : ∀ (n_19 : Nat) (i : Nat) (t : Bst) (hi : i ≤ 100) (ht : Bok t) (hB : bfs kd (pcs + 1) (100 - i) i t = joinF kd (pcs + 1) f bt), 100 - i < n_19 → ∀ (H : Heap) (locs : List Loc) (ls : Array Slot), va_P D vwCl ((b_, .inr (1, [.ref ka_, .ref na_, .ref jo_, .ref me_, .int (nI t.2.2), .int (nI px), .int (nI pcs)])) :: (ka_, .inl (cI, 256, .inl (k2 kd))) :: (na_, .inl (cI, 256, .inl (l1 t.1))) :: (jo_, .inl (cI, 100, .inl (nf t.2.1))) :: (me_, .inl (cI, 100, .inl (nf me))) :: R) H → va_D A ((b_, .inr (1, [.ref ka_, .ref na_, .ref jo_, .ref me_, .int (nI t.2.2), .int (nI px), .int (nI pcs)])) :: (ka_, .inl (cI, 256, .inl (k2 kd))) :: (na_, .inl (cI, 256, .inl (l1 t.1))) :: (jo_, .inl (cI, 100, .inl (nf t.2.1))) :: (me_, .inl (cI, 100, .inl (nf me))) :: R) → va_S A s.heap H locs → lv_has ls 5 [(2, .int (nI i)), (0, .ref b_)] → W p l e (headSpec wsX0_joinFrom rX0_joinFrom).room s m ([.ref b_, .int (nI f)] : List Value).toArray below meth c H locs 0 0 Q (F0 m 19 ls []) := by
    intro n_19
    induction n_19 with
    | zero => intro i t hi ht hB hn_; exact absurd hn_ (Nat.not_lt_zero _)
    | succ n_19 ih_19 =>
      intro i t hi ht hB hn_19 H locs ls hP hD hS hl
      have htc := ht.2.2
      refine lv_iload_n hx hb dX0_joinFrom_19 rfl (lv_at hl 0 rfl) ?_
      refine lv_aload_n hx hb dX0_joinFrom_20 rfl (lv_at hl 1 rfl) ?_
      refine va_get (D := D) (ci := 1) (v := .int (nI t.2.2)) (C := RX0) (T := TX0) (N := 7) hx hb hts in_X0 hown hK hP 0 rfl rfl 4 (by decide) f_30 (fun _ h9 => h9) rfl dX0_joinFrom_21 ?_
      refine lv_icmp_ge (tgt := 96) hx hb dX0_joinFrom_24 (by decide) (fun c24 => ?_) (fun c24 => ?_)
      · skip
        have hu : t = joinF kd (pcs + 1) f bt := by rw [← hB]; exact (bfs_end (fun h => by have := (nI_leI (by omega) (by omega)).mp c24; omega)).symm
        subst hQe
        subst hAe
        subst hsz
        exact g_vret hx hb hr hlocks t hu hP hK hD hS dX0_joinFrom_96
      · skip
        have hi7 : i < t.2.2 := by have := mt (nI_leI (a := t.2.2) (b := i) (by omega) (by omega)).mpr c24; omega
        refine lv_iload_n hx hb dX0_joinFrom_27 rfl (lv_at hl 0 rfl) ?_
        refine lv_bipush (v := 100) hx hb dX0_joinFrom_28 (by decide) ?_
        refine lv_icmp_ge (tgt := 96) hx hb dX0_joinFrom_30 (by decide) (fun c30 => ?_) (fun c30 => ?_)
        · skip
          have hu : t = joinF kd (pcs + 1) f bt := by have := (nI_leI (a := 100) (by omega) (by omega)).mp c30; omega
          subst hQe
          subst hAe
          subst hsz
          exact g_vret hx hb hr hlocks t hu hP hK hD hS dX0_joinFrom_96
        · skip
          have hi8 : i < 100 := by have := mt (nI_leI (a := 100) (b := i) (by omega) (by omega)).mpr c30; omega
          have hti := ht.2.1 i
          refine lv_aload_n hx hb dX0_joinFrom_33 rfl (lv_at hl 1 rfl) ?_
          refine va_get (D := D) (ci := 1) (v := .ref jo_) (C := RX0) (T := TX0) (N := 7) hx hb hts in_X0 hown hK hP 0 rfl rfl 2 (by decide) f_18 (fun _ h9 => h9) rfl dX0_joinFrom_34 ?_
          refine lv_iload_n hx hb dX0_joinFrom_37 rfl (lv_at hl 0 rfl) ?_
          refine va_iald hx hb hK hP (3) 0 rfl rfl (by first | exact vp_in_nI (by omega) (by omega) | assumption) dX0_joinFrom_38 ?_
          refine lv_topi (fun x38 ex38 => ?_)
          rw [nI_clamp (by omega)] at ex38
          obtain rfl : x38 = nI (t.2.1 i) := by exact ex38
          refine lv_bipush (v := 16) hx hb dX0_joinFrom_39 (by decide) ?_
          refine lv_irem hx hb dX0_joinFrom_41 (by decide) ?_
          refine lv_topi (fun x41 ex41 => ?_)
          obtain rfl : x41 = nI (t.2.1 i % 16) := by rw [ex41]; exact pk_rem (d := 16) (by omega) (by omega) (by omega)
          refine lv_istore_n (lv' := [(3, .int (nI (t.2.1 i % 16))), (2, .int (nI i)), (0, .ref b_)]) hx hb dX0_joinFrom_42 rfl hl (by decide) rfl (fun ls hl => ?_)
          refine lv_aload_n hx hb dX0_joinFrom_43 rfl (lv_at hl 2 rfl) ?_
          refine va_get (D := D) (ci := 1) (v := .ref jo_) (C := RX0) (T := TX0) (N := 7) hx hb hts in_X0 hown hK hP 0 rfl rfl 2 (by decide) f_18 (fun _ h9 => h9) rfl dX0_joinFrom_44 ?_
          refine lv_iload_n hx hb dX0_joinFrom_47 rfl (lv_at hl 1 rfl) ?_
          refine va_iald hx hb hK hP (3) 0 rfl rfl (by first | exact vp_in_nI (by omega) (by omega) | assumption) dX0_joinFrom_48 ?_
          refine lv_topi (fun x48 ex48 => ?_)
          rw [nI_clamp (by omega)] at ex48
          obtain rfl : x48 = nI (t.2.1 i) := by exact ex48
          refine lv_bipush (v := 16) hx hb dX0_joinFrom_49 (by decide) ?_
          refine lv_idiv hx hb dX0_joinFrom_51 (by decide) ?_
          refine lv_topi (fun x51 ex51 => ?_)
          obtain rfl : x51 = nI (t.2.1 i / 16) := by rw [ex51]; exact pk_div (d := 16) (by omega) (by omega) (by omega)
          refine lv_istore (lv' := [(4, .int (nI (t.2.1 i / 16))), (3, .int (nI (t.2.1 i % 16))), (2, .int (nI i)), (0, .ref b_)]) hx hb dX0_joinFrom_52 hl (by decide) rfl (fun ls hl => ?_)
          refine lv_aload_n hx hb dX0_joinFrom_54 rfl (lv_at hl 3 rfl) ?_
          refine lv_iload_n hx hb dX0_joinFrom_55 rfl (lv_at hl 1 rfl) ?_
          refine lv_iload hx hb dX0_joinFrom_56 (lv_at hl 0 rfl) ?_
          refine lv_iconst (v := 1) hx hb dX0_joinFrom_58 (by decide) ?_
          refine lv_isub hx hb dX0_joinFrom_59 ?_
          refine lv_topi (fun x59 ex59 => ?_)
          obtain rfl : x59 = (nI (t.2.1 i / 16)) - 1 := by exact ex59
          refine gc_Vv (As := [.int (nI (t.2.1 i % 16)), .int ((nI (t.2.1 i / 16)) - 1)]) (rest := []) (ci := 1) (q0 := 0) ⟨hx, hb, hml, hown, hts⟩ (c_X0_join l D cI cJ cG H.size R b_ ka_ na_ jo_ me_ kd me px pcs t (nI (t.2.1 i % 16)) ((nI (t.2.1 i / 16)) - 1) hkd ht hp) (cwV 2 hts gX0_joinFrom_X0_join rfl rfl rfl (by decide +kernel) ⟨Nat.le_of_ble_eq_true rfl, Nat.le_of_ble_eq_true rfl⟩) rfl rfl rfl hK hP hD hS hA rfl hl.1 rfl (Nat.le_of_ble_eq_true rfl) dX0_joinFrom_60 ⟨Nat.le_of_ble_eq_true rfl, Nat.le_of_ble_eq_true rfl⟩ (fun u60 H locs h60 hP hD hS => ?_)
          subst h60
          have hP : va_P D vwCl ((b_, .inr (1, [.ref ka_, .ref na_, .ref jo_, .ref me_, .int (nI ((joinS kd (pcs + 1) (nI (t.2.1 i % 16)) ((nI (t.2.1 i / 16)) - 1) t).2.2)), .int (nI px), .int (nI pcs)])) :: (ka_, .inl (cI, 256, .inl (k2 kd))) :: (na_, .inl (cI, 256, .inl (l1 ((joinS kd (pcs + 1) (nI (t.2.1 i % 16)) ((nI (t.2.1 i / 16)) - 1) t).1)))) :: (jo_, .inl (cI, 100, .inl (nf ((joinS kd (pcs + 1) (nI (t.2.1 i % 16)) ((nI (t.2.1 i / 16)) - 1) t).2.1)))) :: (me_, .inl (cI, 100, .inl (nf me))) :: R) H := hP
          have hD : va_D A ((b_, .inr (1, [.ref ka_, .ref na_, .ref jo_, .ref me_, .int (nI ((joinS kd (pcs + 1) (nI (t.2.1 i % 16)) ((nI (t.2.1 i / 16)) - 1) t).2.2)), .int (nI px), .int (nI pcs)])) :: (ka_, .inl (cI, 256, .inl (k2 kd))) :: (na_, .inl (cI, 256, .inl (l1 ((joinS kd (pcs + 1) (nI (t.2.1 i % 16)) ((nI (t.2.1 i / 16)) - 1) t).1)))) :: (jo_, .inl (cI, 100, .inl (nf ((joinS kd (pcs + 1) (nI (t.2.1 i % 16)) ((nI (t.2.1 i / 16)) - 1) t).2.1)))) :: (me_, .inl (cI, 100, .inl (nf me))) :: R) := hD
          refine lv_aload_n hx hb dX0_joinFrom_63 rfl (lv_at hl 3 rfl) ?_
          refine lv_iload_n hx hb dX0_joinFrom_64 rfl (lv_at hl 1 rfl) ?_
          refine lv_iconst (v := 1) hx hb dX0_joinFrom_65 (by decide) ?_
          refine lv_isub hx hb dX0_joinFrom_66 ?_
          refine lv_topi (fun x66 ex66 => ?_)
          obtain rfl : x66 = (nI (t.2.1 i % 16)) - 1 := by exact ex66
          refine lv_iload hx hb dX0_joinFrom_67 (lv_at hl 0 rfl) ?_
          refine gc_Vv (As := [.int ((nI (t.2.1 i % 16)) - 1), .int (nI (t.2.1 i / 16))]) (rest := []) (ci := 1) (q0 := 0) ⟨hx, hb, hml, hown, hts⟩ (c_X0_join l D cI cJ cG H.size R b_ ka_ na_ jo_ me_ kd me px pcs (joinS kd (pcs + 1) (nI (t.2.1 i % 16)) ((nI (t.2.1 i / 16)) - 1) t) ((nI (t.2.1 i % 16)) - 1) (nI (t.2.1 i / 16)) hkd (by first | exact ht | exact joinS_ok (by omega) ht | exact joinS_ok (by omega) (joinS_ok (by omega) ht) | exact joinS_ok (by omega) (joinS_ok (by omega) (joinS_ok (by omega) ht))) hp) (cwV 2 hts gX0_joinFrom_X0_join rfl rfl rfl (by decide +kernel) ⟨Nat.le_of_ble_eq_true rfl, Nat.le_of_ble_eq_true rfl⟩) rfl rfl rfl hK hP hD hS hA rfl hl.1 rfl (Nat.le_of_ble_eq_true rfl) dX0_joinFrom_69 ⟨Nat.le_of_ble_eq_true rfl, Nat.le_of_ble_eq_true rfl⟩ (fun u69 H locs h69 hP hD hS => ?_)
          subst h69
          have hP : va_P D vwCl ((b_, .inr (1, [.ref ka_, .ref na_, .ref jo_, .ref me_, .int (nI ((joinS kd (pcs + 1) ((nI (t.2.1 i % 16)) - 1) (nI (t.2.1 i / 16)) (joinS kd (pcs + 1) (nI (t.2.1 i % 16)) ((nI (t.2.1 i / 16)) - 1) t)).2.2)), .int (nI px), .int (nI pcs)])) :: (ka_, .inl (cI, 256, .inl (k2 kd))) :: (na_, .inl (cI, 256, .inl (l1 ((joinS kd (pcs + 1) ((nI (t.2.1 i % 16)) - 1) (nI (t.2.1 i / 16)) (joinS kd (pcs + 1) (nI (t.2.1 i % 16)) ((nI (t.2.1 i / 16)) - 1) t)).1)))) :: (jo_, .inl (cI, 100, .inl (nf ((joinS kd (pcs + 1) ((nI (t.2.1 i % 16)) - 1) (nI (t.2.1 i / 16)) (joinS kd (pcs + 1) (nI (t.2.1 i % 16)) ((nI (t.2.1 i / 16)) - 1) t)).2.1)))) :: (me_, .inl (cI, 100, .inl (nf me))) :: R) H := hP
          have hD : va_D A ((b_, .inr (1, [.ref ka_, .ref na_, .ref jo_, .ref me_, .int (nI ((joinS kd (pcs + 1) ((nI (t.2.1 i % 16)) - 1) (nI (t.2.1 i / 16)) (joinS kd (pcs + 1) (nI (t.2.1 i % 16)) ((nI (t.2.1 i / 16)) - 1) t)).2.2)), .int (nI px), .int (nI pcs)])) :: (ka_, .inl (cI, 256, .inl (k2 kd))) :: (na_, .inl (cI, 256, .inl (l1 ((joinS kd (pcs + 1) ((nI (t.2.1 i % 16)) - 1) (nI (t.2.1 i / 16)) (joinS kd (pcs + 1) (nI (t.2.1 i % 16)) ((nI (t.2.1 i / 16)) - 1) t)).1)))) :: (jo_, .inl (cI, 100, .inl (nf ((joinS kd (pcs + 1) ((nI (t.2.1 i % 16)) - 1) (nI (t.2.1 i / 16)) (joinS kd (pcs + 1) (nI (t.2.1 i % 16)) ((nI (t.2.1 i / 16)) - 1) t)).2.1)))) :: (me_, .inl (cI, 100, .inl (nf me))) :: R) := hD
          refine lv_aload_n hx hb dX0_joinFrom_72 rfl (lv_at hl 3 rfl) ?_
          refine lv_iload_n hx hb dX0_joinFrom_73 rfl (lv_at hl 1 rfl) ?_
          refine lv_iconst (v := 1) hx hb dX0_joinFrom_74 (by decide) ?_
          refine lv_iadd hx hb dX0_joinFrom_75 ?_
          refine lv_topi (fun x75 ex75 => ?_)
          obtain rfl : x75 = (nI (t.2.1 i % 16)) + 1 := by exact ex75
          refine lv_iload hx hb dX0_joinFrom_76 (lv_at hl 0 rfl) ?_
          refine gc_Vv (As := [.int ((nI (t.2.1 i % 16)) + 1), .int (nI (t.2.1 i / 16))]) (rest := []) (ci := 1) (q0 := 0) ⟨hx, hb, hml, hown, hts⟩ (c_X0_join l D cI cJ cG H.size R b_ ka_ na_ jo_ me_ kd me px pcs (joinS kd (pcs + 1) ((nI (t.2.1 i % 16)) - 1) (nI (t.2.1 i / 16)) (joinS kd (pcs + 1) (nI (t.2.1 i % 16)) ((nI (t.2.1 i / 16)) - 1) t)) ((nI (t.2.1 i % 16)) + 1) (nI (t.2.1 i / 16)) hkd (by first | exact ht | exact joinS_ok (by omega) ht | exact joinS_ok (by omega) (joinS_ok (by omega) ht) | exact joinS_ok (by omega) (joinS_ok (by omega) (joinS_ok (by omega) ht))) hp) (cwV 2 hts gX0_joinFrom_X0_join rfl rfl rfl (by decide +kernel) ⟨Nat.le_of_ble_eq_true rfl, Nat.le_of_ble_eq_true rfl⟩) rfl rfl rfl hK hP hD hS hA rfl hl.1 rfl (Nat.le_of_ble_eq_true rfl) dX0_joinFrom_78 ⟨Nat.le_of_ble_eq_true rfl, Nat.le_of_ble_eq_true rfl⟩ (fun u78 H locs h78 hP hD hS => ?_)
          subst h78
          have hP : va_P D vwCl ((b_, .inr (1, [.ref ka_, .ref na_, .ref jo_, .ref me_, .int (nI ((joinS kd (pcs + 1) ((nI (t.2.1 i % 16)) + 1) (nI (t.2.1 i / 16)) (joinS kd (pcs + 1) ((nI (t.2.1 i % 16)) - 1) (nI (t.2.1 i / 16)) (joinS kd (pcs + 1) (nI (t.2.1 i % 16)) ((nI (t.2.1 i / 16)) - 1) t))).2.2)), .int (nI px), .int (nI pcs)])) :: (ka_, .inl (cI, 256, .inl (k2 kd))) :: (na_, .inl (cI, 256, .inl (l1 ((joinS kd (pcs + 1) ((nI (t.2.1 i % 16)) + 1) (nI (t.2.1 i / 16)) (joinS kd (pcs + 1) ((nI (t.2.1 i % 16)) - 1) (nI (t.2.1 i / 16)) (joinS kd (pcs + 1) (nI (t.2.1 i % 16)) ((nI (t.2.1 i / 16)) - 1) t))).1)))) :: (jo_, .inl (cI, 100, .inl (nf ((joinS kd (pcs + 1) ((nI (t.2.1 i % 16)) + 1) (nI (t.2.1 i / 16)) (joinS kd (pcs + 1) ((nI (t.2.1 i % 16)) - 1) (nI (t.2.1 i / 16)) (joinS kd (pcs + 1) (nI (t.2.1 i % 16)) ((nI (t.2.1 i / 16)) - 1) t))).2.1)))) :: (me_, .inl (cI, 100, .inl (nf me))) :: R) H := hP
          have hD : va_D A ((b_, .inr (1, [.ref ka_, .ref na_, .ref jo_, .ref me_, .int (nI ((joinS kd (pcs + 1) ((nI (t.2.1 i % 16)) + 1) (nI (t.2.1 i / 16)) (joinS kd (pcs + 1) ((nI (t.2.1 i % 16)) - 1) (nI (t.2.1 i / 16)) (joinS kd (pcs + 1) (nI (t.2.1 i % 16)) ((nI (t.2.1 i / 16)) - 1) t))).2.2)), .int (nI px), .int (nI pcs)])) :: (ka_, .inl (cI, 256, .inl (k2 kd))) :: (na_, .inl (cI, 256, .inl (l1 ((joinS kd (pcs + 1) ((nI (t.2.1 i % 16)) + 1) (nI (t.2.1 i / 16)) (joinS kd (pcs + 1) ((nI (t.2.1 i % 16)) - 1) (nI (t.2.1 i / 16)) (joinS kd (pcs + 1) (nI (t.2.1 i % 16)) ((nI (t.2.1 i / 16)) - 1) t))).1)))) :: (jo_, .inl (cI, 100, .inl (nf ((joinS kd (pcs + 1) ((nI (t.2.1 i % 16)) + 1) (nI (t.2.1 i / 16)) (joinS kd (pcs + 1) ((nI (t.2.1 i % 16)) - 1) (nI (t.2.1 i / 16)) (joinS kd (pcs + 1) (nI (t.2.1 i % 16)) ((nI (t.2.1 i / 16)) - 1) t))).2.1)))) :: (me_, .inl (cI, 100, .inl (nf me))) :: R) := hD
          refine lv_aload_n hx hb dX0_joinFrom_81 rfl (lv_at hl 3 rfl) ?_
          refine lv_iload_n hx hb dX0_joinFrom_82 rfl (lv_at hl 1 rfl) ?_
          refine lv_iload hx hb dX0_joinFrom_83 (lv_at hl 0 rfl) ?_
          refine lv_iconst (v := 1) hx hb dX0_joinFrom_85 (by decide) ?_
          refine lv_iadd hx hb dX0_joinFrom_86 ?_
          refine lv_topi (fun x86 ex86 => ?_)
          obtain rfl : x86 = (nI (t.2.1 i / 16)) + 1 := by exact ex86
          refine gc_Vv (As := [.int (nI (t.2.1 i % 16)), .int ((nI (t.2.1 i / 16)) + 1)]) (rest := []) (ci := 1) (q0 := 0) ⟨hx, hb, hml, hown, hts⟩ (c_X0_join l D cI cJ cG H.size R b_ ka_ na_ jo_ me_ kd me px pcs (joinS kd (pcs + 1) ((nI (t.2.1 i % 16)) + 1) (nI (t.2.1 i / 16)) (joinS kd (pcs + 1) ((nI (t.2.1 i % 16)) - 1) (nI (t.2.1 i / 16)) (joinS kd (pcs + 1) (nI (t.2.1 i % 16)) ((nI (t.2.1 i / 16)) - 1) t))) (nI (t.2.1 i % 16)) ((nI (t.2.1 i / 16)) + 1) hkd (by first | exact ht | exact joinS_ok (by omega) ht | exact joinS_ok (by omega) (joinS_ok (by omega) ht) | exact joinS_ok (by omega) (joinS_ok (by omega) (joinS_ok (by omega) ht))) hp) (cwV 2 hts gX0_joinFrom_X0_join rfl rfl rfl (by decide +kernel) ⟨Nat.le_of_ble_eq_true rfl, Nat.le_of_ble_eq_true rfl⟩) rfl rfl rfl hK hP hD hS hA rfl hl.1 rfl (Nat.le_of_ble_eq_true rfl) dX0_joinFrom_87 ⟨Nat.le_of_ble_eq_true rfl, Nat.le_of_ble_eq_true rfl⟩ (fun u87 H locs h87 hP hD hS => ?_)
          subst h87
          have hP : va_P D vwCl ((b_, .inr (1, [.ref ka_, .ref na_, .ref jo_, .ref me_, .int (nI ((four kd (pcs + 1) (nI (t.2.1 i % 16)) (nI (t.2.1 i / 16)) t).2.2)), .int (nI px), .int (nI pcs)])) :: (ka_, .inl (cI, 256, .inl (k2 kd))) :: (na_, .inl (cI, 256, .inl (l1 ((four kd (pcs + 1) (nI (t.2.1 i % 16)) (nI (t.2.1 i / 16)) t).1)))) :: (jo_, .inl (cI, 100, .inl (nf ((four kd (pcs + 1) (nI (t.2.1 i % 16)) (nI (t.2.1 i / 16)) t).2.1)))) :: (me_, .inl (cI, 100, .inl (nf me))) :: R) H := hP
          have hD : va_D A ((b_, .inr (1, [.ref ka_, .ref na_, .ref jo_, .ref me_, .int (nI ((four kd (pcs + 1) (nI (t.2.1 i % 16)) (nI (t.2.1 i / 16)) t).2.2)), .int (nI px), .int (nI pcs)])) :: (ka_, .inl (cI, 256, .inl (k2 kd))) :: (na_, .inl (cI, 256, .inl (l1 ((four kd (pcs + 1) (nI (t.2.1 i % 16)) (nI (t.2.1 i / 16)) t).1)))) :: (jo_, .inl (cI, 100, .inl (nf ((four kd (pcs + 1) (nI (t.2.1 i % 16)) (nI (t.2.1 i / 16)) t).2.1)))) :: (me_, .inl (cI, 100, .inl (nf me))) :: R) := hD
          obtain ⟨x90, ex90⟩ : ∃ y : Int32, y = (nI i) + 1 := ⟨_, rfl⟩
          refine lv_iinc (v := x90) (lv' := [(2, .int x90), (4, .int (nI (t.2.1 i / 16))), (3, .int (nI (t.2.1 i % 16))), (0, .ref b_)]) hx hb dX0_joinFrom_90 hl (k := 2) rfl (by rw [ex90]; rfl) (by decide) rfl (fun ls hl => ?_)
          obtain rfl : x90 = nI (i + 1) := by rw [ex90]; exact nI_1 _
          refine lv_goto (tgt := 19) hx hb dX0_joinFrom_93 (by decide) ?_
          exact ih_19 (i + 1) (four kd (pcs + 1) (nI (t.2.1 i % 16)) (nI (t.2.1 i / 16)) t) (by omega) (four_ok (by omega) ht) (by rw [← bfs_step hi8 hi7]; exact hB) (by omega) H locs ls hP hD hS (lv_sub hl [0, 3] rfl)
  exact L_19 _ 0 (joinS kd (pcs + 1) (nI (f % 16)) (nI (f / 16)) (bt.1, bt.2.1, 0)) (Nat.zero_le _) (joinS_ok (by omega) ⟨hbt.1, hbt.2.1, Nat.zero_le _⟩) rfl (Nat.lt_succ_self _) H locs ls hP hD hS (lv_sub hl [0, 1] rfl)
