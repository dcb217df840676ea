theorem pm_2_0_1_3_4_P {D : va_G} {cl : List vw_C} {H : Heap} {x0 x1 x2 x3 x4 : Nat × va_E} {T : va_W} (h : va_P D cl (x0 :: x1 :: x2 :: x3 :: x4 :: T) H) : va_P D cl (x2 :: x0 :: x1 :: x3 :: x4 :: T) H := va_P.part (X := [x0, x1, x2, x3, x4]) (pl := T) (cx := [x2, x0, x1, x3, x4]) h [2, 0, 1, 3, 4] rfl
theorem pm_2_0_1_3_4_D {A : Nat → Prop} {x0 x1 x2 x3 x4 : Nat × va_E} {T : va_W} (h : va_D A (x0 :: x1 :: x2 :: x3 :: x4 :: T)) : va_D A (x2 :: x0 :: x1 :: x3 :: x4 :: T) := va_D.part (X := [x0, x1, x2, x3, x4]) (pl := T) (cx := [x2, x0, x1, x3, x4]) h [2, 0, 1, 3, 4] (by decide) rfl
theorem pm_1_2_0_3_4_P {D : va_G} {cl : List vw_C} {H : Heap} {x0 x1 x2 x3 x4 : Nat × va_E} {T : va_W} (h : va_P D cl (x0 :: x1 :: x2 :: x3 :: x4 :: T) H) : va_P D cl (x1 :: x2 :: x0 :: x3 :: x4 :: T) H := va_P.part (X := [x0, x1, x2, x3, x4]) (pl := T) (cx := [x1, x2, x0, x3, x4]) h [1, 2, 0, 3, 4] rfl
theorem pm_1_2_0_3_4_D {A : Nat → Prop} {x0 x1 x2 x3 x4 : Nat × va_E} {T : va_W} (h : va_D A (x0 :: x1 :: x2 :: x3 :: x4 :: T)) : va_D A (x1 :: x2 :: x0 :: x3 :: x4 :: T) := va_D.part (X := [x0, x1, x2, x3, x4]) (pl := T) (cx := [x1, x2, x0, x3, x4]) h [1, 2, 0, 3, 4] (by decide) rfl
abbrev rX0_numberPieces : Room := { frames := 3, cells := 0, slots := 0, locals := 68 }
set_option maxHeartbeats 4000000 in
set_option maxRecDepth 100000 in
theorem c_X0_numberPieces (l : Launch) (D : va_G) (cI cJ cG : ClassId) (sz : Nat) (R : va_W) (b_ ka_ na_ jo_ me_ : Nat) (kd me : Nat → Nat) (px pcs : Nat) (bt : Bst) (hkd : ∀ p, kd p ≤ 6) (hbt : Bok bt) : Met l yX0_numberPieces wsX0_numberPieces rX0_numberPieces (gP D (tyl cI cJ cG) [.ref b_] ((b_, .inr (1, [.ref ka_, .ref na_, .ref jo_, .ref me_, .int (nI bt.2.2), .int (nI px), .int (nI pcs)])) :: (ka_, .inl (cI, 256, .inl (k2 kd))) :: (na_, .inl (cI, 256, .inl (l1 bt.1))) :: (jo_, .inl (cI, 100, .inl (nf bt.2.1))) :: (me_, .inl (cI, 100, .inl (nf me))) :: R) sz) (gQv D (tyl cI cJ cG) ((b_, .inr (1, [.ref ka_, .ref na_, .ref jo_, .ref me_, .int (nI bt.2.2), .int (nI px), .int (nI pcs)])) :: (ka_, .inl (cI, 256, .inl (k2 kd))) :: (na_, .inl (cI, 256, .inl (l1 bt.1))) :: (jo_, .inl (cI, 100, .inl (nf bt.2.1))) :: (me_, .inl (cI, 100, .inl (nf me))) :: R) sz (fun (u : Bst × Nat) => u = numL kd (clr bt) 256) (fun u => ((b_, .inr (1, [.ref ka_, .ref na_, .ref jo_, .ref me_, .int (nI u.1.2.2), .int (nI px), .int (nI u.2)])) :: (ka_, .inl (cI, 256, .inl (k2 kd))) :: (na_, .inl (cI, 256, .inl (l1 u.1.1))) :: (jo_, .inl (cI, 100, .inl (nf u.1.2.1))) :: (me_, .inl (cI, 100, .inl (nf me))) :: R))) 0 0 (va_A ((b_, .inr (1, [.ref ka_, .ref na_, .ref jo_, .ref me_, .int (nI bt.2.2), .int (nI px), .int (nI pcs)])) :: (ka_, .inl (cI, 256, .inl (k2 kd))) :: (na_, .inl (cI, 256, .inl (l1 bt.1))) :: (jo_, .inl (cI, 100, .inl (nf bt.2.1))) :: (me_, .inl (cI, 100, .inl (nf me))) :: R) sz) := by
  refine gMet (cc := cX0_numberPieces) (maxL := 2) (ret := none) (ls0 := [(0, .ref b_)]) (by decide) rfl (Nat.le_of_ble_eq_true rfl) rfl ?_
  intro p e s m below meth c hx hb hr hts hown hlocks hml hname A hA hAe hsz Q hQe H locs hP hK hD hS ls hl
  have hown : s.vm.findClass RX0 = some m.cls := hown
  have in_X0 : ∀ w ∈ wsX00, w ∈ wsX0_numberPieces := by decide +kernel
  have f_15 := hts (.fieldLink RX0 15 "SpectrumHeads$Belt" "numberAt" "[I") (by decide +kernel)
  have f_37 := hts (.fieldLink RX0 37 "SpectrumHeads$Belt" "pieces" "I") (by decide +kernel)
  have f_11 := hts (.fieldLink RX0 11 "SpectrumHeads$Belt" "kindAt" "[I") (by decide +kernel)
  refine lv_aload_n hx hb dX0_numberPieces_0 rfl (lv_at hl 0 rfl) ?_
  refine va_get (D := D) (ci := 1) (v := .ref na_) (C := RX0) (T := TX0) (N := 7) hx hb hts in_X0 hown hK hP 0 rfl rfl 1 (by decide) f_15 (fun _ h9 => h9) rfl dX0_numberPieces_1 ?_
  refine lv_iconst (v := -1) hx hb dX0_numberPieces_4 (by decide) ?_
  have hP := pm_2_0_1_3_4_P hP
  have hD := pm_2_0_1_3_4_D hD
  refine gc_Sv (As := [.ref na_, .int (-1)]) (rest := []) ⟨hx, hb, hml, hown, hts⟩ (c_J7_fill_53178 l D cI cJ cG H.size ((b_, .inr (1, [.ref ka_, .ref na_, .ref jo_, .ref me_, .int (nI bt.2.2), .int (nI px), .int (nI pcs)])) :: (ka_, .inl (cI, 256, .inl (k2 kd))) :: (jo_, .inl (cI, 100, .inl (nf bt.2.1))) :: (me_, .inl (cI, 100, .inl (nf me))) :: R) na_ 256 (l1 bt.1) (-1) (by omega)) (va_cwS 2 hts gX0_numberPieces_J7_fill_53178 rfl rfl rfl (by decide +kernel) ⟨Nat.le_of_ble_eq_true rfl, Nat.le_of_ble_eq_true rfl⟩) hK hP hD hS hA rfl hl.1 rfl (Nat.le_of_ble_eq_true rfl) dX0_numberPieces_5 ⟨Nat.le_of_ble_eq_true rfl, Nat.le_of_ble_eq_true rfl⟩ (fun u5 H locs h5 hP hD hS => ?_)
  have hP : va_P D vwCl ((na_, .inl (cI, 256, .inl (fu (fun _ => ((-1) : Int32)) (l1 bt.1) 256))) :: (b_, .inr (1, [.ref ka_, .ref na_, .ref jo_, .ref me_, .int (nI bt.2.2), .int (nI px), .int (nI pcs)])) :: (ka_, .inl (cI, 256, .inl (k2 kd))) :: (jo_, .inl (cI, 100, .inl (nf bt.2.1))) :: (me_, .inl (cI, 100, .inl (nf me))) :: R) H := hP
  have hD : va_D A ((na_, .inl (cI, 256, .inl (fu (fun _ => ((-1) : Int32)) (l1 bt.1) 256))) :: (b_, .inr (1, [.ref ka_, .ref na_, .ref jo_, .ref me_, .int (nI bt.2.2), .int (nI px), .int (nI pcs)])) :: (ka_, .inl (cI, 256, .inl (k2 kd))) :: (jo_, .inl (cI, 100, .inl (nf bt.2.1))) :: (me_, .inl (cI, 100, .inl (nf me))) :: R) := hD
  rw [show fu (fun _ => ((-1) : Int32)) (l1 bt.1) 256 = l1 (clr bt).1 from l1_fill _] at hP hD
  have hP := pm_1_2_0_3_4_P hP
  have hD := pm_1_2_0_3_4_D hD
  have hP : va_P D vwCl ((b_, .inr (1, [.ref ka_, .ref na_, .ref jo_, .ref me_, .int (nI bt.2.2), .int (nI px), .int (nI pcs)])) :: (ka_, .inl (cI, 256, .inl (k2 kd))) :: (na_, .inl (cI, 256, .inl (l1 (clr bt).1))) :: (jo_, .inl (cI, 100, .inl (nf bt.2.1))) :: (me_, .inl (cI, 100, .inl (nf me))) :: R) H := hP
  have hD : va_D A ((b_, .inr (1, [.ref ka_, .ref na_, .ref jo_, .ref me_, .int (nI bt.2.2), .int (nI px), .int (nI pcs)])) :: (ka_, .inl (cI, 256, .inl (k2 kd))) :: (na_, .inl (cI, 256, .inl (l1 (clr bt).1))) :: (jo_, .inl (cI, 100, .inl (nf bt.2.1))) :: (me_, .inl (cI, 100, .inl (nf me))) :: R) := hD
  refine lv_aload_n hx hb dX0_numberPieces_8 rfl (lv_at hl 0 rfl) ?_
  refine lv_iconst (v := 0) hx hb dX0_numberPieces_9 (by decide) ?_
  refine va_put (D := D) (ci := 1) (v := .int 0) (ty := .int) (C := RX0) (T := TX0) (N := 7) hx hb hts in_X0 tyX0 tyX0_ok nmX0 hown hK hP hD hS 0 rfl rfl 6 (by decide) f_37 (fun _ h9 => h9) rfl (by decide +kernel) rfl rfl (Nat.le_of_ble_eq_true rfl) dX0_numberPieces_10 (fun H locs hP hD hS => ?_)
  have hP : va_P D vwCl ((b_, .inr (1, [.ref ka_, .ref na_, .ref jo_, .ref me_, .int (nI bt.2.2), .int (nI px), .int 0])) :: (ka_, .inl (cI, 256, .inl (k2 kd))) :: (na_, .inl (cI, 256, .inl (l1 (clr bt).1))) :: (jo_, .inl (cI, 100, .inl (nf bt.2.1))) :: (me_, .inl (cI, 100, .inl (nf me))) :: R) H := hP
  have hD : va_D A ((b_, .inr (1, [.ref ka_, .ref na_, .ref jo_, .ref me_, .int (nI bt.2.2), .int (nI px), .int 0])) :: (ka_, .inl (cI, 256, .inl (k2 kd))) :: (na_, .inl (cI, 256, .inl (l1 (clr bt).1))) :: (jo_, .inl (cI, 100, .inl (nf bt.2.1))) :: (me_, .inl (cI, 100, .inl (nf me))) :: R) := hD
  refine lv_iconst (v := 0) hx hb dX0_numberPieces_13 (by decide) ?_
  refine lv_istore_n (lv' := [(1, .int 0), (0, .ref b_)]) hx hb dX0_numberPieces_14 rfl hl (by decide) rfl (fun ls hl => ?_)
  have L_15 : ∀ (n_15 : Nat) (i : Nat) (hi : i ≤ 256), 256 - i < n_15 → ∀ (H : Heap) (locs : List Loc) (ls : Array Slot), va_P D vwCl ((b_, .inr (1, [.ref ka_, .ref na_, .ref jo_, .ref me_, .int (nI (((numL kd (clr bt) i).1).2.2)), .int (nI px), .int (nI ((numL kd (clr bt) i).2))])) :: (ka_, .inl (cI, 256, .inl (k2 kd))) :: (na_, .inl (cI, 256, .inl (l1 (((numL kd (clr bt) i).1).1)))) :: (jo_, .inl (cI, 100, .inl (nf (((numL kd (clr bt) i).1).2.1)))) :: (me_, .inl (cI, 100, .inl (nf me))) :: R) H → va_D A ((b_, .inr (1, [.ref ka_, .ref na_, .ref jo_, .ref me_, .int (nI (((numL kd (clr bt) i).1).2.2)), .int (nI px), .int (nI ((numL kd (clr bt) i).2))])) :: (ka_, .inl (cI, 256, .inl (k2 kd))) :: (na_, .inl (cI, 256, .inl (l1 (((numL kd (clr bt) i).1).1)))) :: (jo_, .inl (cI, 100, .inl (nf (((numL kd (clr bt) i).1).2.1)))) :: (me_, .inl (cI, 100, .inl (nf me))) :: R) → va_S A s.heap H locs → lv_has ls 2 [(1, .int (nI i)), (0, .ref b_)] → W p l e (headSpec wsX0_numberPieces rX0_numberPieces).room s m ([.ref b_] : List Value).toArray below meth c H locs 0 0 Q (F0 m 15 ls []) := by
    intro n_15
    induction n_15 with
    | zero => intro i hi hn_; exact absurd hn_ (Nat.not_lt_zero _)
    | succ n_15 ih_15 =>
      intro i hi hn_15 H locs ls hP hD hS hl
      have hok := numL_ok (kd := kd) (clr_ok hbt) i hi
      have hnl := numL_le kd (clr bt) i
      refine lv_iload_n hx hb dX0_numberPieces_15 rfl (lv_at hl 0 rfl) ?_
      refine lv_sipush (v := 256) hx hb dX0_numberPieces_16 (by decide) ?_
      refine lv_icmp_ge (tgt := 62) hx hb dX0_numberPieces_19 (by decide) (fun c19 => ?_) (fun c19 => ?_)
      · skip
        have hE19 := lp_e (n := 256) c19 hi
        subst hE19
        subst hQe
        subst hAe
        subst hsz
        exact g_vret hx hb hr hlocks (numL kd (clr bt) 256) rfl hP hK hD hS dX0_numberPieces_62
      · skip
        have hi8 := lp_l (n := 256) c19 hi
        have hpp : (numL kd (clr bt) i).2 ≤ 255 := by omega
        have hk6 := hkd i
        have hl6 := hok.1 i
        refine lv_aload_n hx hb dX0_numberPieces_22 rfl (lv_at hl 1 rfl) ?_
        refine va_get (D := D) (ci := 1) (v := .ref ka_) (C := RX0) (T := TX0) (N := 7) hx hb hts in_X0 hown hK hP 0 rfl rfl 0 (by decide) f_11 (fun _ h9 => h9) rfl dX0_numberPieces_23 ?_
        refine lv_iload_n hx hb dX0_numberPieces_26 rfl (lv_at hl 0 rfl) ?_
        refine va_iald hx hb hK hP (1) 0 rfl rfl (by first | exact vp_in_nI (by omega) (by omega) | assumption) dX0_numberPieces_27 ?_
        refine lv_topi (fun x27 ex27 => ?_)
        rw [nI_clamp (by omega)] at ex27
        obtain rfl : x27 = nI (kd i) - 2 := by exact ex27
        refine lv_if_lt (tgt := 56) hx hb dX0_numberPieces_28 (by decide) (fun c28 => ?_) (fun c28 => ?_)
        · skip
          have hsk : ¬ (2 ≤ kd i ∧ (numL kd (clr bt) i).1.1 i = 0) := fun h => by have := (k2_neg (by omega)).mp c28; omega
          rw [numL_n hsk] at hP hD
          obtain ⟨x56, ex56⟩ : ∃ y : Int32, y = (nI i) + 1 := ⟨_, rfl⟩
          refine lv_iinc (v := x56) (lv' := [(1, .int x56), (0, .ref b_)]) hx hb dX0_numberPieces_56 hl (k := 0) rfl (by rw [ex56]; rfl) (by decide) rfl (fun ls hl => ?_)
          obtain rfl : x56 = nI (i + 1) := by rw [ex56]; exact nI_1 _
          refine lv_goto (tgt := 15) hx hb dX0_numberPieces_59 (by decide) ?_
          exact ih_15 (i + 1) (by omega) (by omega) H locs ls hP hD hS (lv_sub hl [0, 1] rfl)
        · skip
          have hk2 : 2 ≤ kd i := by have := mt (k2_neg (by omega)).mpr c28; omega
          refine lv_aload_n hx hb dX0_numberPieces_31 rfl (lv_at hl 1 rfl) ?_
          refine va_get (D := D) (ci := 1) (v := .ref na_) (C := RX0) (T := TX0) (N := 7) hx hb hts in_X0 hown hK hP 0 rfl rfl 1 (by decide) f_15 (fun _ h9 => h9) rfl dX0_numberPieces_32 ?_
          refine lv_iload_n hx hb dX0_numberPieces_35 rfl (lv_at hl 0 rfl) ?_
          refine va_iald hx hb hK hP (2) 0 rfl rfl (by first | exact vp_in_nI (by omega) (by omega) | assumption) dX0_numberPieces_36 ?_
          refine lv_topi (fun x36 ex36 => ?_)
          rw [nI_clamp (by omega)] at ex36
          obtain rfl : x36 = nI ((numL kd (clr bt) i).1.1 i) - 1 := by exact ex36
          refine lv_iconst (v := -1) hx hb dX0_numberPieces_37 (by decide) ?_
          refine lv_icmp_ne (tgt := 56) hx hb dX0_numberPieces_38 (by decide) (fun c38 => ?_) (fun c38 => ?_)
          · skip
            have hsk : ¬ (2 ≤ kd i ∧ (numL kd (clr bt) i).1.1 i = 0) := fun h => c38 ((l1_none (by omega)).mpr h.2)
            rw [numL_n hsk] at hP hD
            obtain ⟨x56, ex56⟩ : ∃ y : Int32, y = (nI i) + 1 := ⟨_, rfl⟩
            refine lv_iinc (v := x56) (lv' := [(1, .int x56), (0, .ref b_)]) hx hb dX0_numberPieces_56 hl (k := 0) rfl (by rw [ex56]; rfl) (by decide) rfl (fun ls hl => ?_)
            obtain rfl : x56 = nI (i + 1) := by rw [ex56]; exact nI_1 _
            refine lv_goto (tgt := 15) hx hb dX0_numberPieces_59 (by decide) ?_
            exact ih_15 (i + 1) (by omega) (by omega) H locs ls hP hD hS (lv_sub hl [0, 1] rfl)
          · skip
            have hl0 : (numL kd (clr bt) i).1.1 i = 0 := (l1_none (by omega)).mp c38
            refine lv_aload_n hx hb dX0_numberPieces_41 rfl (lv_at hl 1 rfl) ?_
            refine lv_iload_n hx hb dX0_numberPieces_42 rfl (lv_at hl 0 rfl) ?_
            refine gc_Vv (As := [.int (nI i)]) (rest := []) (ci := 1) (q0 := 0) ⟨hx, hb, hml, hown, hts⟩ (c_X0_joinFrom l D cI cJ cG H.size R b_ ka_ na_ jo_ me_ kd me px (numL kd (clr bt) i).2 (numL kd (clr bt) i).1 i hi8 hkd hok hpp) (cwV 1 hts gX0_numberPieces_X0_joinFrom rfl rfl rfl (by decide +kernel) ⟨Nat.le_of_ble_eq_true rfl, Nat.le_of_ble_eq_true rfl⟩) rfl rfl rfl hK hP hD hS hA rfl hl.1 rfl (Nat.le_of_ble_eq_true rfl) dX0_numberPieces_43 ⟨Nat.le_of_ble_eq_true rfl, Nat.le_of_ble_eq_true rfl⟩ (fun u43 H locs h43 hP hD hS => ?_)
            subst h43
            have hP : va_P D vwCl ((b_, .inr (1, [.ref ka_, .ref na_, .ref jo_, .ref me_, .int (nI ((joinF kd ((numL kd (clr bt) i).2 + 1) i (numL kd (clr bt) i).1).2.2)), .int (nI px), .int (nI ((numL kd (clr bt) i).2))])) :: (ka_, .inl (cI, 256, .inl (k2 kd))) :: (na_, .inl (cI, 256, .inl (l1 ((joinF kd ((numL kd (clr bt) i).2 + 1) i (numL kd (clr bt) i).1).1)))) :: (jo_, .inl (cI, 100, .inl (nf ((joinF kd ((numL kd (clr bt) i).2 + 1) i (numL kd (clr bt) i).1).2.1)))) :: (me_, .inl (cI, 100, .inl (nf me))) :: R) H := hP
            have hD : va_D A ((b_, .inr (1, [.ref ka_, .ref na_, .ref jo_, .ref me_, .int (nI ((joinF kd ((numL kd (clr bt) i).2 + 1) i (numL kd (clr bt) i).1).2.2)), .int (nI px), .int (nI ((numL kd (clr bt) i).2))])) :: (ka_, .inl (cI, 256, .inl (k2 kd))) :: (na_, .inl (cI, 256, .inl (l1 ((joinF kd ((numL kd (clr bt) i).2 + 1) i (numL kd (clr bt) i).1).1)))) :: (jo_, .inl (cI, 100, .inl (nf ((joinF kd ((numL kd (clr bt) i).2 + 1) i (numL kd (clr bt) i).1).2.1)))) :: (me_, .inl (cI, 100, .inl (nf me))) :: R) := hD
            refine lv_aload_n hx hb dX0_numberPieces_46 rfl (lv_at hl 1 rfl) ?_
            refine lv_dup hx hb dX0_numberPieces_47 rfl ?_
            refine va_get (D := D) (ci := 1) (v := .int (nI ((numL kd (clr bt) i).2))) (C := RX0) (T := TX0) (N := 7) hx hb hts in_X0 hown hK hP 0 rfl rfl 6 (by decide) f_37 (fun _ h9 => h9) rfl dX0_numberPieces_48 ?_
            refine lv_iconst (v := 1) hx hb dX0_numberPieces_51 (by decide) ?_
            refine lv_iadd hx hb dX0_numberPieces_52 ?_
            refine lv_topi (fun x52 ex52 => ?_)
            obtain rfl : x52 = nI ((numL kd (clr bt) i).2 + 1) := by rw [ex52]; exact nI_1 _
            refine va_put (D := D) (ci := 1) (v := .int (nI ((numL kd (clr bt) i).2 + 1))) (ty := .int) (C := RX0) (T := TX0) (N := 7) hx hb hts in_X0 tyX0 tyX0_ok nmX0 hown hK hP hD hS 0 rfl rfl 6 (by decide) f_37 (fun _ h9 => h9) rfl (by decide +kernel) rfl rfl (Nat.le_of_ble_eq_true rfl) dX0_numberPieces_53 (fun H locs hP hD hS => ?_)
            have hP : va_P D vwCl ((b_, .inr (1, [.ref ka_, .ref na_, .ref jo_, .ref me_, .int (nI ((joinF kd ((numL kd (clr bt) i).2 + 1) i (numL kd (clr bt) i).1).2.2)), .int (nI px), .int (nI ((numL kd (clr bt) i).2 + 1))])) :: (ka_, .inl (cI, 256, .inl (k2 kd))) :: (na_, .inl (cI, 256, .inl (l1 ((joinF kd ((numL kd (clr bt) i).2 + 1) i (numL kd (clr bt) i).1).1)))) :: (jo_, .inl (cI, 100, .inl (nf ((joinF kd ((numL kd (clr bt) i).2 + 1) i (numL kd (clr bt) i).1).2.1)))) :: (me_, .inl (cI, 100, .inl (nf me))) :: R) H := hP
            have hD : va_D A ((b_, .inr (1, [.ref ka_, .ref na_, .ref jo_, .ref me_, .int (nI ((joinF kd ((numL kd (clr bt) i).2 + 1) i (numL kd (clr bt) i).1).2.2)), .int (nI px), .int (nI ((numL kd (clr bt) i).2 + 1))])) :: (ka_, .inl (cI, 256, .inl (k2 kd))) :: (na_, .inl (cI, 256, .inl (l1 ((joinF kd ((numL kd (clr bt) i).2 + 1) i (numL kd (clr bt) i).1).1)))) :: (jo_, .inl (cI, 100, .inl (nf ((joinF kd ((numL kd (clr bt) i).2 + 1) i (numL kd (clr bt) i).1).2.1)))) :: (me_, .inl (cI, 100, .inl (nf me))) :: R) := hD
            have hP : va_P D vwCl ((b_, .inr (1, [.ref ka_, .ref na_, .ref jo_, .ref me_, .int (nI (((numL kd (clr bt) (i + 1)).1).2.2)), .int (nI px), .int (nI ((numL kd (clr bt) (i + 1)).2))])) :: (ka_, .inl (cI, 256, .inl (k2 kd))) :: (na_, .inl (cI, 256, .inl (l1 (((numL kd (clr bt) (i + 1)).1).1)))) :: (jo_, .inl (cI, 100, .inl (nf (((numL kd (clr bt) (i + 1)).1).2.1)))) :: (me_, .inl (cI, 100, .inl (nf me))) :: R) H := by rw [numL_s hk2 hl0]; exact hP
            have hD : va_D A ((b_, .inr (1, [.ref ka_, .ref na_, .ref jo_, .ref me_, .int (nI (((numL kd (clr bt) (i + 1)).1).2.2)), .int (nI px), .int (nI ((numL kd (clr bt) (i + 1)).2))])) :: (ka_, .inl (cI, 256, .inl (k2 kd))) :: (na_, .inl (cI, 256, .inl (l1 (((numL kd (clr bt) (i + 1)).1).1)))) :: (jo_, .inl (cI, 100, .inl (nf (((numL kd (clr bt) (i + 1)).1).2.1)))) :: (me_, .inl (cI, 100, .inl (nf me))) :: R) := by rw [numL_s hk2 hl0]; exact hD
            obtain ⟨x56, ex56⟩ : ∃ y : Int32, y = (nI i) + 1 := ⟨_, rfl⟩
            refine lv_iinc (v := x56) (lv' := [(1, .int x56), (0, .ref b_)]) hx hb dX0_numberPieces_56 hl (k := 0) rfl (by rw [ex56]; rfl) (by decide) rfl (fun ls hl => ?_)
            obtain rfl : x56 = nI (i + 1) := by rw [ex56]; exact nI_1 _
            refine lv_goto (tgt := 15) hx hb dX0_numberPieces_59 (by decide) ?_
            exact ih_15 (i + 1) (by omega) (by omega) H locs ls hP hD hS (lv_sub hl [0, 1] rfl)
  exact L_15 _ 0 (Nat.zero_le _) (Nat.lt_succ_self _) H locs ls hP hD hS (lv_sub hl [0, 1] rfl)
abbrev rX0_tell : Room := { frames := 4, cells := 0, slots := 0, locals := 89 }
set_option maxHeartbeats 4000000 in
set_option maxRecDepth 100000 in
theorem c_X0_tell (l : Launch) (D : va_G) (cI cJ cG : ClassId) (sz : Nat) (R : va_W) (b_ ka_ na_ jo_ me_ : Nat) (kd me : Nat → Nat) (px pcs : Nat) (bt : Bst) (a b v : Nat) (ha : a < 16) (hb_ : b < 16) (hv : v ≤ 6) (hkd : ∀ p, kd p ≤ 6) (hbt : Bok bt) : Met l yX0_tell wsX0_tell rX0_tell (gP D (tyl cI cJ cG) [.ref b_, .int (nI a), .int (nI b), .int (nI v - 2)] ((b_, .inr (1, [.ref ka_, .ref na_, .ref jo_, .ref me_, .int (nI bt.2.2), .int (nI px), .int (nI pcs)])) :: (ka_, .inl (cI, 256, .inl (k2 kd))) :: (na_, .inl (cI, 256, .inl (l1 bt.1))) :: (jo_, .inl (cI, 100, .inl (nf bt.2.1))) :: (me_, .inl (cI, 100, .inl (nf me))) :: R) sz) (gQv D (tyl cI cJ cG) ((b_, .inr (1, [.ref ka_, .ref na_, .ref jo_, .ref me_, .int (nI bt.2.2), .int (nI px), .int (nI pcs)])) :: (ka_, .inl (cI, 256, .inl (k2 kd))) :: (na_, .inl (cI, 256, .inl (l1 bt.1))) :: (jo_, .inl (cI, 100, .inl (nf bt.2.1))) :: (me_, .inl (cI, 100, .inl (nf me))) :: R) sz (fun (u : Bst × Nat) => u = if v = 1 then (bt, pcs) else numL (un kd (16 * b + a) v) (clr bt) 256) (fun u => ((b_, .inr (1, [.ref ka_, .ref na_, .ref jo_, .ref me_, .int (nI u.1.2.2), .int (nI (px + 1)), .int (nI u.2)])) :: (ka_, .inl (cI, 256, .inl (k2 (un kd (16 * b + a) v)))) :: (na_, .inl (cI, 256, .inl (l1 u.1.1))) :: (jo_, .inl (cI, 100, .inl (nf u.1.2.1))) :: (me_, .inl (cI, 100, .inl (nf me))) :: R))) 0 0 (va_A ((b_, .inr (1, [.ref ka_, .ref na_, .ref jo_, .ref me_, .int (nI bt.2.2), .int (nI px), .int (nI pcs)])) :: (ka_, .inl (cI, 256, .inl (k2 kd))) :: (na_, .inl (cI, 256, .inl (l1 bt.1))) :: (jo_, .inl (cI, 100, .inl (nf bt.2.1))) :: (me_, .inl (cI, 100, .inl (nf me))) :: R) sz) := by
  refine gMet (cc := cX0_tell) (maxL := 4) (ret := none) (ls0 := [(0, .ref b_), (1, .int (nI a)), (2, .int (nI b)), (3, .int (nI v - 2))]) (by decide) rfl (Nat.le_of_ble_eq_true rfl) rfl ?_
  intro p e s m below meth c hx hb hr hts hown hlocks hml hname A hA hAe hsz Q hQe H locs hP hK hD hS ls hl
  have hown : s.vm.findClass RX0 = some m.cls := hown
  have in_X0 : ∀ w ∈ wsX00, w ∈ wsX0_tell := by decide +kernel
  have f_11 := hts (.fieldLink RX0 11 "SpectrumHeads$Belt" "kindAt" "[I") (by decide +kernel)
  have f_34 := hts (.fieldLink RX0 34 "SpectrumHeads$Belt" "pixels" "I") (by decide +kernel)
  refine lv_aload_n hx hb dX0_tell_0 rfl (lv_at hl 0 rfl) ?_
  refine va_get (D := D) (ci := 1) (v := .ref ka_) (C := RX0) (T := TX0) (N := 7) hx hb hts in_X0 hown hK hP 0 rfl rfl 0 (by decide) f_11 (fun _ h9 => h9) rfl dX0_tell_1 ?_
  refine lv_bipush (v := 16) hx hb dX0_tell_4 (by decide) ?_
  refine lv_iload_n hx hb dX0_tell_6 rfl (lv_at hl 2 rfl) ?_
  refine lv_imul hx hb dX0_tell_7 ?_
  refine lv_topi (fun x7 ex7 => ?_)
  obtain rfl : x7 = nI (16 * b) := by rw [ex7]; exact pk_mul 16 _
  refine lv_iload_n hx hb dX0_tell_8 rfl (lv_at hl 1 rfl) ?_
  refine lv_iadd hx hb dX0_tell_9 ?_
  refine lv_topi (fun x9 ex9 => ?_)
  obtain rfl : x9 = nI (16 * b + a) := by rw [ex9]; exact nI_add _ _
  refine lv_iload_n hx hb dX0_tell_10 rfl (lv_at hl 3 rfl) ?_
  refine va_iast hx hb hK hP hD hS 1 0 rfl rfl (by first | exact vp_in_nI (by omega) (by omega) | assumption) dX0_tell_11 (fun H locs hP hD hS => ?_)
  rw [nI_clamp (by omega)] at hP hD
  have hP : va_P D vwCl ((b_, .inr (1, [.ref ka_, .ref na_, .ref jo_, .ref me_, .int (nI bt.2.2), .int (nI px), .int (nI pcs)])) :: (ka_, .inl (cI, 256, .inl (upd (k2 kd) (16 * b + a) (nI v - 2)))) :: (na_, .inl (cI, 256, .inl (l1 bt.1))) :: (jo_, .inl (cI, 100, .inl (nf bt.2.1))) :: (me_, .inl (cI, 100, .inl (nf me))) :: R) H := hP
  have hD : va_D A ((b_, .inr (1, [.ref ka_, .ref na_, .ref jo_, .ref me_, .int (nI bt.2.2), .int (nI px), .int (nI pcs)])) :: (ka_, .inl (cI, 256, .inl (upd (k2 kd) (16 * b + a) (nI v - 2)))) :: (na_, .inl (cI, 256, .inl (l1 bt.1))) :: (jo_, .inl (cI, 100, .inl (nf bt.2.1))) :: (me_, .inl (cI, 100, .inl (nf me))) :: R) := hD
  have hW_ : upd (k2 kd) (16 * b + a) (nI v - 2) = k2 (un kd (16 * b + a) v) := by exact k2_upd _ _ _
  rw [hW_] at hP hD
  have hP : va_P D vwCl ((b_, .inr (1, [.ref ka_, .ref na_, .ref jo_, .ref me_, .int (nI bt.2.2), .int (nI px), .int (nI pcs)])) :: (ka_, .inl (cI, 256, .inl (k2 (un kd (16 * b + a) v)))) :: (na_, .inl (cI, 256, .inl (l1 bt.1))) :: (jo_, .inl (cI, 100, .inl (nf bt.2.1))) :: (me_, .inl (cI, 100, .inl (nf me))) :: R) H := hP
  have hD : va_D A ((b_, .inr (1, [.ref ka_, .ref na_, .ref jo_, .ref me_, .int (nI bt.2.2), .int (nI px), .int (nI pcs)])) :: (ka_, .inl (cI, 256, .inl (k2 (un kd (16 * b + a) v)))) :: (na_, .inl (cI, 256, .inl (l1 bt.1))) :: (jo_, .inl (cI, 100, .inl (nf bt.2.1))) :: (me_, .inl (cI, 100, .inl (nf me))) :: R) := hD
  refine lv_aload_n hx hb dX0_tell_12 rfl (lv_at hl 0 rfl) ?_
  refine lv_dup hx hb dX0_tell_13 rfl ?_
  refine va_get (D := D) (ci := 1) (v := .int (nI px)) (C := RX0) (T := TX0) (N := 7) hx hb hts in_X0 hown hK hP 0 rfl rfl 5 (by decide) f_34 (fun _ h9 => h9) rfl dX0_tell_14 ?_
  refine lv_iconst (v := 1) hx hb dX0_tell_17 (by decide) ?_
  refine lv_iadd hx hb dX0_tell_18 ?_
  refine lv_topi (fun x18 ex18 => ?_)
  obtain rfl : x18 = nI (px + 1) := by rw [ex18]; exact nI_1 _
  refine va_put (D := D) (ci := 1) (v := .int (nI (px + 1))) (ty := .int) (C := RX0) (T := TX0) (N := 7) hx hb hts in_X0 tyX0 tyX0_ok nmX0 hown hK hP hD hS 0 rfl rfl 5 (by decide) f_34 (fun _ h9 => h9) rfl (by decide +kernel) rfl rfl (Nat.le_of_ble_eq_true rfl) dX0_tell_19 (fun H locs hP hD hS => ?_)
  have hP : va_P D vwCl ((b_, .inr (1, [.ref ka_, .ref na_, .ref jo_, .ref me_, .int (nI bt.2.2), .int (nI (px + 1)), .int (nI pcs)])) :: (ka_, .inl (cI, 256, .inl (k2 (un kd (16 * b + a) v)))) :: (na_, .inl (cI, 256, .inl (l1 bt.1))) :: (jo_, .inl (cI, 100, .inl (nf bt.2.1))) :: (me_, .inl (cI, 100, .inl (nf me))) :: R) H := hP
  have hD : va_D A ((b_, .inr (1, [.ref ka_, .ref na_, .ref jo_, .ref me_, .int (nI bt.2.2), .int (nI (px + 1)), .int (nI pcs)])) :: (ka_, .inl (cI, 256, .inl (k2 (un kd (16 * b + a) v)))) :: (na_, .inl (cI, 256, .inl (l1 bt.1))) :: (jo_, .inl (cI, 100, .inl (nf bt.2.1))) :: (me_, .inl (cI, 100, .inl (nf me))) :: R) := hD
  refine lv_iload_n hx hb dX0_tell_22 rfl (lv_at hl 3 rfl) ?_
  refine lv_iconst (v := -1) hx hb dX0_tell_23 (by decide) ?_
  refine lv_icmp_eq (tgt := 31) hx hb dX0_tell_24 (by decide) (fun c24 => ?_) (fun c24 => ?_)
  · skip
    have hv1 : v = 1 := (k2_none (by omega)).mp c24
    subst hQe
    subst hAe
    subst hsz
    exact g_vret hx hb hr hlocks (bt, pcs) (if_pos hv1).symm hP hK hD hS dX0_tell_31
  · skip
    have hv1 : ¬ v = 1 := fun h => c24 ((k2_none (by omega)).mpr h)
    refine lv_aload_n hx hb dX0_tell_27 rfl (lv_at hl 0 rfl) ?_
    refine gc_Vv (As := []) (rest := []) (ci := 1) (q0 := 0) ⟨hx, hb, hml, hown, hts⟩ (c_X0_numberPieces l D cI cJ cG H.size R b_ ka_ na_ jo_ me_ (un kd (16 * b + a) v) me (px + 1) pcs bt (un_le hkd hv) hbt) (cwV 0 hts gX0_tell_X0_numberPieces rfl rfl rfl (by decide +kernel) ⟨Nat.le_of_ble_eq_true rfl, Nat.le_of_ble_eq_true rfl⟩) rfl rfl rfl hK hP hD hS hA rfl hl.1 rfl (Nat.le_of_ble_eq_true rfl) dX0_tell_28 ⟨Nat.le_of_ble_eq_true rfl, Nat.le_of_ble_eq_true rfl⟩ (fun u28 H locs h28 hP hD hS => ?_)
    subst h28
    have hP : va_P D vwCl ((b_, .inr (1, [.ref ka_, .ref na_, .ref jo_, .ref me_, .int (nI (((numL (un kd (16 * b + a) v) (clr bt) 256).1).2.2)), .int (nI (px + 1)), .int (nI ((numL (un kd (16 * b + a) v) (clr bt) 256).2))])) :: (ka_, .inl (cI, 256, .inl (k2 (un kd (16 * b + a) v)))) :: (na_, .inl (cI, 256, .inl (l1 (((numL (un kd (16 * b + a) v) (clr bt) 256).1).1)))) :: (jo_, .inl (cI, 100, .inl (nf (((numL (un kd (16 * b + a) v) (clr bt) 256).1).2.1)))) :: (me_, .inl (cI, 100, .inl (nf me))) :: R) H := hP
    have hD : va_D A ((b_, .inr (1, [.ref ka_, .ref na_, .ref jo_, .ref me_, .int (nI (((numL (un kd (16 * b + a) v) (clr bt) 256).1).2.2)), .int (nI (px + 1)), .int (nI ((numL (un kd (16 * b + a) v) (clr bt) 256).2))])) :: (ka_, .inl (cI, 256, .inl (k2 (un kd (16 * b + a) v)))) :: (na_, .inl (cI, 256, .inl (l1 (((numL (un kd (16 * b + a) v) (clr bt) 256).1).1)))) :: (jo_, .inl (cI, 100, .inl (nf (((numL (un kd (16 * b + a) v) (clr bt) 256).1).2.1)))) :: (me_, .inl (cI, 100, .inl (nf me))) :: R) := hD
    subst hQe
    subst hAe
    subst hsz
    exact g_vret hx hb hr hlocks (numL (un kd (16 * b + a) v) (clr bt) 256) (if_neg hv1).symm hP hK hD hS dX0_tell_31
abbrev rX0_countIn : Room := { frames := 0, cells := 0, slots := 0, locals := 0 }
set_option maxHeartbeats 4000000 in
set_option maxRecDepth 100000 in
theorem c_X0_countIn (l : Launch) (D : va_G) (cI cJ cG : ClassId) (sz : Nat) (R : va_W) (b_ ka_ na_ jo_ me_ : Nat) (kd me : Nat → Nat) (px pcs : Nat) (bt : Bst) (q k : Nat) (hq : q ≤ 256) (hk : k ≤ 256) (hkd : ∀ p, kd p ≤ 6) (hbt : Bok bt) : Met l yX0_countIn wsX0_countIn rX0_countIn (gP D (tyl cI cJ cG) [.ref b_, .int (nI q), .int (nI k)] ((b_, .inr (1, [.ref ka_, .ref na_, .ref jo_, .ref me_, .int (nI bt.2.2), .int (nI px), .int (nI pcs)])) :: (ka_, .inl (cI, 256, .inl (k2 kd))) :: (na_, .inl (cI, 256, .inl (l1 bt.1))) :: (jo_, .inl (cI, 100, .inl (nf bt.2.1))) :: (me_, .inl (cI, 100, .inl (nf me))) :: R) sz) (gQi D (tyl cI cJ cG) ((b_, .inr (1, [.ref ka_, .ref na_, .ref jo_, .ref me_, .int (nI bt.2.2), .int (nI px), .int (nI pcs)])) :: (ka_, .inl (cI, 256, .inl (k2 kd))) :: (na_, .inl (cI, 256, .inl (l1 bt.1))) :: (jo_, .inl (cI, 100, .inl (nf bt.2.1))) :: (me_, .inl (cI, 100, .inl (nf me))) :: R) sz (fun r (_ : Unit) => r = nI (cnt (inP bt.1 kd q k) 256)) (fun _ => ((b_, .inr (1, [.ref ka_, .ref na_, .ref jo_, .ref me_, .int (nI bt.2.2), .int (nI px), .int (nI pcs)])) :: (ka_, .inl (cI, 256, .inl (k2 kd))) :: (na_, .inl (cI, 256, .inl (l1 bt.1))) :: (jo_, .inl (cI, 100, .inl (nf bt.2.1))) :: (me_, .inl (cI, 100, .inl (nf me))) :: R))) 0 0 (va_A ((b_, .inr (1, [.ref ka_, .ref na_, .ref jo_, .ref me_, .int (nI bt.2.2), .int (nI px), .int (nI pcs)])) :: (ka_, .inl (cI, 256, .inl (k2 kd))) :: (na_, .inl (cI, 256, .inl (l1 bt.1))) :: (jo_, .inl (cI, 100, .inl (nf bt.2.1))) :: (me_, .inl (cI, 100, .inl (nf me))) :: R) sz) := by
  refine gMet (cc := cX0_countIn) (maxL := 5) (ret := (some .int)) (ls0 := [(0, .ref b_), (1, .int (nI q)), (2, .int (nI k))]) (by decide) rfl (Nat.le_of_ble_eq_true rfl) rfl ?_
  intro p e s m below meth c hx hb hr hts hown hlocks hml hname A hA hAe hsz Q hQe H locs hP hK hD hS ls hl
  have hown : s.vm.findClass RX0 = some m.cls := hown
  have in_X0 : ∀ w ∈ wsX00, w ∈ wsX0_countIn := by decide +kernel
  have f_15 := hts (.fieldLink RX0 15 "SpectrumHeads$Belt" "numberAt" "[I") (by decide +kernel)
  have f_11 := hts (.fieldLink RX0 11 "SpectrumHeads$Belt" "kindAt" "[I") (by decide +kernel)
  refine lv_iconst (v := 0) hx hb dX0_countIn_0 (by decide) ?_
  refine lv_istore_n (lv' := [(3, .int 0), (0, .ref b_), (1, .int (nI q)), (2, .int (nI k))]) hx hb dX0_countIn_1 rfl hl (by decide) rfl (fun ls hl => ?_)
  refine lv_iconst (v := 0) hx hb dX0_countIn_2 (by decide) ?_
  refine lv_istore (lv' := [(4, .int 0), (3, .int 0), (0, .ref b_), (1, .int (nI q)), (2, .int (nI k))]) hx hb dX0_countIn_3 hl (by decide) rfl (fun ls hl => ?_)
  have L_5 : ∀ (n_5 : Nat) (i : Nat) (hi : i ≤ 256), 256 - i < n_5 → ∀ (H : Heap) (locs : List Loc) (ls : Array Slot), va_P D vwCl ((b_, .inr (1, [.ref ka_, .ref na_, .ref jo_, .ref me_, .int (nI bt.2.2), .int (nI px), .int (nI pcs)])) :: (ka_, .inl (cI, 256, .inl (k2 kd))) :: (na_, .inl (cI, 256, .inl (l1 bt.1))) :: (jo_, .inl (cI, 100, .inl (nf bt.2.1))) :: (me_, .inl (cI, 100, .inl (nf me))) :: R) H → va_D A ((b_, .inr (1, [.ref ka_, .ref na_, .ref jo_, .ref me_, .int (nI bt.2.2), .int (nI px), .int (nI pcs)])) :: (ka_, .inl (cI, 256, .inl (k2 kd))) :: (na_, .inl (cI, 256, .inl (l1 bt.1))) :: (jo_, .inl (cI, 100, .inl (nf bt.2.1))) :: (me_, .inl (cI, 100, .inl (nf me))) :: R) → va_S A s.heap H locs → lv_has ls 5 [(4, .int (nI i)), (3, .int (nI (cnt (inP bt.1 kd q k) i))), (0, .ref b_), (1, .int (nI q)), (2, .int (nI k))] → W p l e (headSpec wsX0_countIn rX0_countIn).room s m ([.ref b_, .int (nI q), .int (nI k)] : List Value).toArray below meth c H locs 0 0 Q (F0 m 5 ls []) := by
    intro n_5
    induction n_5 with
    | zero => intro i hi hn_; exact absurd hn_ (Nat.not_lt_zero _)
    | succ n_5 ih_5 =>
      intro i hi hn_5 H locs ls hP hD hS hl
      refine lv_iload hx hb dX0_countIn_5 (lv_at hl 0 rfl) ?_
      refine lv_sipush (v := 256) hx hb dX0_countIn_7 (by decide) ?_
      refine lv_icmp_ge (tgt := 44) hx hb dX0_countIn_10 (by decide) (fun c10 => ?_) (fun c10 => ?_)
      · skip
        have hE10 := lp_e (n := 256) c10 hi
        subst hE10
        refine lv_iload_n hx hb dX0_countIn_44 rfl (lv_at hl 1 rfl) ?_
        subst hQe
        subst hAe
        subst hsz
        exact g_iret hx hb hr hlocks () rfl hP hK hD hS dX0_countIn_45
      · skip
        have hi8 := lp_l (n := 256) c10 hi
        have hk6 := hkd i
        have hl6 := hbt.1 i
        refine lv_aload_n hx hb dX0_countIn_13 rfl (lv_at hl 2 rfl) ?_
        refine va_get (D := D) (ci := 1) (v := .ref na_) (C := RX0) (T := TX0) (N := 7) hx hb hts in_X0 hown hK hP 0 rfl rfl 1 (by decide) f_15 (fun _ h9 => h9) rfl dX0_countIn_14 ?_
        refine lv_iload hx hb dX0_countIn_17 (lv_at hl 0 rfl) ?_
        refine va_iald hx hb hK hP (2) 0 rfl rfl (by first | exact vp_in_nI (by omega) (by omega) | assumption) dX0_countIn_19 ?_
        refine lv_topi (fun x19 ex19 => ?_)
        rw [nI_clamp (by omega)] at ex19
        obtain rfl : x19 = nI (bt.1 i) - 1 := by exact ex19
        refine lv_iload_n hx hb dX0_countIn_20 rfl (lv_at hl 3 rfl) ?_
        refine lv_icmp_ne (tgt := 38) hx hb dX0_countIn_21 (by decide) (fun c21 => ?_) (fun c21 => ?_)
        · skip
          have hno : (inP bt.1 kd q k) i = false := by simp [inP, mt (l1_eq (b := q) (by omega) (by omega)).mpr c21]
          rw [cnt_n hno] at hl
          obtain ⟨x38, ex38⟩ : ∃ y : Int32, y = (nI i) + 1 := ⟨_, rfl⟩
          refine lv_iinc (v := x38) (lv' := [(4, .int x38), (3, .int (nI (cnt (inP bt.1 kd q k) (i + 1)))), (0, .ref b_), (1, .int (nI q)), (2, .int (nI k))]) hx hb dX0_countIn_38 hl (k := 0) rfl (by rw [ex38]; rfl) (by decide) rfl (fun ls hl => ?_)
          obtain rfl : x38 = nI (i + 1) := by rw [ex38]; exact nI_1 _
          refine lv_goto (tgt := 5) hx hb dX0_countIn_41 (by decide) ?_
          exact ih_5 (i + 1) (by omega) (by omega) H locs ls hP hD hS (lv_sub hl [0, 1, 2, 3, 4] rfl)
        · skip
          have h1 : bt.1 i = q + 1 := (l1_eq (by omega) (by omega)).mp c21
          refine lv_aload_n hx hb dX0_countIn_24 rfl (lv_at hl 2 rfl) ?_
          refine va_get (D := D) (ci := 1) (v := .ref ka_) (C := RX0) (T := TX0) (N := 7) hx hb hts in_X0 hown hK hP 0 rfl rfl 0 (by decide) f_11 (fun _ h9 => h9) rfl dX0_countIn_25 ?_
          refine lv_iload hx hb dX0_countIn_28 (lv_at hl 0 rfl) ?_
          refine va_iald hx hb hK hP (1) 0 rfl rfl (by first | exact vp_in_nI (by omega) (by omega) | assumption) dX0_countIn_30 ?_
          refine lv_topi (fun x30 ex30 => ?_)
          rw [nI_clamp (by omega)] at ex30
          obtain rfl : x30 = nI (kd i) - 2 := by exact ex30
          refine lv_iload_n hx hb dX0_countIn_31 rfl (lv_at hl 4 rfl) ?_
          refine lv_icmp_ne (tgt := 38) hx hb dX0_countIn_32 (by decide) (fun c32 => ?_) (fun c32 => ?_)
          · skip
            have hno : (inP bt.1 kd q k) i = false := by simp [inP, mt (k2_eq (b := k) (by omega) (by omega)).mpr c32]
            rw [cnt_n hno] at hl
            obtain ⟨x38, ex38⟩ : ∃ y : Int32, y = (nI i) + 1 := ⟨_, rfl⟩
            refine lv_iinc (v := x38) (lv' := [(4, .int x38), (3, .int (nI (cnt (inP bt.1 kd q k) (i + 1)))), (0, .ref b_), (1, .int (nI q)), (2, .int (nI k))]) hx hb dX0_countIn_38 hl (k := 0) rfl (by rw [ex38]; rfl) (by decide) rfl (fun ls hl => ?_)
            obtain rfl : x38 = nI (i + 1) := by rw [ex38]; exact nI_1 _
            refine lv_goto (tgt := 5) hx hb dX0_countIn_41 (by decide) ?_
            exact ih_5 (i + 1) (by omega) (by omega) H locs ls hP hD hS (lv_sub hl [0, 1, 2, 3, 4] rfl)
          · skip
            have hyes : (inP bt.1 kd q k) i = true := by simp [inP, h1, (k2_eq (b := k) (by omega) (by omega)).mp c32]
            obtain ⟨x35, ex35⟩ : ∃ y : Int32, y = (nI (cnt (inP bt.1 kd q k) i)) + 1 := ⟨_, rfl⟩
            refine lv_iinc (v := x35) (lv' := [(3, .int x35), (4, .int (nI i)), (0, .ref b_), (1, .int (nI q)), (2, .int (nI k))]) hx hb dX0_countIn_35 hl (k := 1) rfl (by rw [ex35]; rfl) (by decide) rfl (fun ls hl => ?_)
            obtain rfl : x35 = nI (cnt (inP bt.1 kd q k) (i + 1)) := by rw [ex35, nI_1, cnt_s hyes]
            obtain ⟨x38, ex38⟩ : ∃ y : Int32, y = (nI i) + 1 := ⟨_, rfl⟩
            refine lv_iinc (v := x38) (lv' := [(4, .int x38), (3, .int (nI (cnt (inP bt.1 kd q k) (i + 1)))), (0, .ref b_), (1, .int (nI q)), (2, .int (nI k))]) hx hb dX0_countIn_38 hl (k := 1) rfl (by rw [ex38]; rfl) (by decide) rfl (fun ls hl => ?_)
            obtain rfl : x38 = nI (i + 1) := by rw [ex38]; exact nI_1 _
            refine lv_goto (tgt := 5) hx hb dX0_countIn_41 (by decide) ?_
            exact ih_5 (i + 1) (by omega) (by omega) H locs ls hP hD hS (lv_sub hl [0, 1, 2, 3, 4] rfl)
  exact L_5 _ 0 (Nat.zero_le _) (Nat.lt_succ_self _) H locs ls hP hD hS (lv_sub hl [0, 1, 2, 3, 4] rfl)
abbrev rX0_meetRound : Room := { frames := 2, cells := 0, slots := 0, locals := 43 }
set_option maxHeartbeats 4000000 in
set_option maxRecDepth 100000 in
theorem c_X0_meetRound (l : Launch) (D : va_G) (cI cJ cG : ClassId) (sz : Nat) (R : va_W) (b_ ka_ na_ jo_ me_ : Nat) (kd me : Nat → Nat) (px pcs : Nat) (bt : Bst) (x y : Nat) (hx_ : x < 16) (hy_ : y < 16) : Met l yX0_meetRound wsX0_meetRound rX0_meetRound (gP D (tyl cI cJ cG) [.ref b_, .int (nI x), .int (nI y)] ((b_, .inr (1, [.ref ka_, .ref na_, .ref jo_, .ref me_, .int (nI bt.2.2), .int (nI px), .int (nI pcs)])) :: (ka_, .inl (cI, 256, .inl (k2 kd))) :: (na_, .inl (cI, 256, .inl (l1 bt.1))) :: (jo_, .inl (cI, 100, .inl (nf bt.2.1))) :: (me_, .inl (cI, 100, .inl (nf me))) :: R) sz) (gQv D (tyl cI cJ cG) ((b_, .inr (1, [.ref ka_, .ref na_, .ref jo_, .ref me_, .int (nI bt.2.2), .int (nI px), .int (nI pcs)])) :: (ka_, .inl (cI, 256, .inl (k2 kd))) :: (na_, .inl (cI, 256, .inl (l1 bt.1))) :: (jo_, .inl (cI, 100, .inl (nf bt.2.1))) :: (me_, .inl (cI, 100, .inl (nf me))) :: R) sz (fun (_ : Unit) => True) (fun _ => ((b_, .inr (1, [.ref ka_, .ref na_, .ref jo_, .ref me_, .int (nI bt.2.2), .int (nI px), .int (nI pcs)])) :: (ka_, .inl (cI, 256, .inl (k2 kd))) :: (na_, .inl (cI, 256, .inl (l1 bt.1))) :: (jo_, .inl (cI, 100, .inl (nf bt.2.1))) :: (me_, .inl (cI, 100, .inl (nf (metI bt.1 (nI x) (nI y) 3 me)))) :: R))) 0 0 (va_A ((b_, .inr (1, [.ref ka_, .ref na_, .ref jo_, .ref me_, .int (nI bt.2.2), .int (nI px), .int (nI pcs)])) :: (ka_, .inl (cI, 256, .inl (k2 kd))) :: (na_, .inl (cI, 256, .inl (l1 bt.1))) :: (jo_, .inl (cI, 100, .inl (nf bt.2.1))) :: (me_, .inl (cI, 100, .inl (nf me))) :: R) sz) := by
  refine gMet (cc := cX0_meetRound) (maxL := 6) (ret := none) (ls0 := [(0, .ref b_), (1, .int (nI x)), (2, .int (nI y))]) (by decide) rfl (Nat.le_of_ble_eq_true rfl) rfl ?_
  intro p e s m below meth c hx hb hr hts hown hlocks hml hname A hA hAe hsz Q hQe H locs hP hK hD hS ls hl
  have hown : s.vm.findClass RX0 = some m.cls := hown
  have in_X0 : ∀ w ∈ wsX00, w ∈ wsX0_meetRound := by decide +kernel
  have f_21 := hts (.fieldLink RX0 21 "SpectrumHeads$Belt" "met" "[I") (by decide +kernel)
  refine lv_iconst (v := -1) hx hb dX0_meetRound_0 (by decide) ?_
  refine lv_istore_n (lv' := [(3, .int (-1)), (0, .ref b_), (1, .int (nI x)), (2, .int (nI y))]) hx hb dX0_meetRound_1 rfl hl (by decide) rfl (fun ls hl => ?_)
  have L_2 : ∀ (n_2 : Nat) (i : Nat) (hi : i ≤ 3), 3 - i < n_2 → ∀ (H : Heap) (locs : List Loc) (ls : Array Slot), va_P D vwCl ((b_, .inr (1, [.ref ka_, .ref na_, .ref jo_, .ref me_, .int (nI bt.2.2), .int (nI px), .int (nI pcs)])) :: (ka_, .inl (cI, 256, .inl (k2 kd))) :: (na_, .inl (cI, 256, .inl (l1 bt.1))) :: (jo_, .inl (cI, 100, .inl (nf bt.2.1))) :: (me_, .inl (cI, 100, .inl (nf (metI bt.1 (nI x) (nI y) i me)))) :: R) H → va_D A ((b_, .inr (1, [.ref ka_, .ref na_, .ref jo_, .ref me_, .int (nI bt.2.2), .int (nI px), .int (nI pcs)])) :: (ka_, .inl (cI, 256, .inl (k2 kd))) :: (na_, .inl (cI, 256, .inl (l1 bt.1))) :: (jo_, .inl (cI, 100, .inl (nf bt.2.1))) :: (me_, .inl (cI, 100, .inl (nf (metI bt.1 (nI x) (nI y) i me)))) :: R) → va_S A s.heap H locs → lv_has ls 6 [(3, .int (nI i - 1)), (0, .ref b_), (1, .int (nI x)), (2, .int (nI y))] → W p l e (headSpec wsX0_meetRound rX0_meetRound).room s m ([.ref b_, .int (nI x), .int (nI y)] : List Value).toArray below meth c H locs 0 0 Q (F0 m 2 ls []) := by
    intro n_2
    induction n_2 with
    | zero => intro i hi hn_; exact absurd hn_ (Nat.not_lt_zero _)
    | succ n_2 ih_2 =>
      intro i hi hn_2 H locs ls hP hD hS hl
      refine lv_iload_n hx hb dX0_meetRound_2 rfl (lv_at hl 0 rfl) ?_
      refine lv_iconst (v := 1) hx hb dX0_meetRound_3 (by decide) ?_
      refine lv_icmp_gt (tgt := 61) hx hb dX0_meetRound_4 (by decide) (fun c4 => ?_) (fun c4 => ?_)
      · skip
        have hE4 : 3 = i := by have := (j1_gt (by omega)).mp c4; omega
        subst hE4
        subst hQe
        subst hAe
        subst hsz
        exact g_vret hx hb hr hlocks () trivial hP hK hD hS dX0_meetRound_61
      · skip
        have hi8 : i < 3 := by have := mt (j1_gt (j := i) (by omega)).mpr c4; omega
        refine lv_iconst (v := -1) hx hb dX0_meetRound_7 (by decide) ?_
        refine lv_istore (lv' := [(4, .int (-1)), (3, .int (nI i - 1)), (0, .ref b_), (1, .int (nI x)), (2, .int (nI y))]) hx hb dX0_meetRound_8 hl (by decide) rfl (fun ls hl => ?_)
        have L_10 : ∀ (n_10 : Nat) (j : Nat) (hj : j ≤ 3), 3 - j < n_10 → ∀ (H : Heap) (locs : List Loc) (ls : Array Slot), va_P D vwCl ((b_, .inr (1, [.ref ka_, .ref na_, .ref jo_, .ref me_, .int (nI bt.2.2), .int (nI px), .int (nI pcs)])) :: (ka_, .inl (cI, 256, .inl (k2 kd))) :: (na_, .inl (cI, 256, .inl (l1 bt.1))) :: (jo_, .inl (cI, 100, .inl (nf bt.2.1))) :: (me_, .inl (cI, 100, .inl (nf (metJ bt.1 (nI x) (nI y + (nI i - 1)) j (metI bt.1 (nI x) (nI y) i me))))) :: R) H → va_D A ((b_, .inr (1, [.ref ka_, .ref na_, .ref jo_, .ref me_, .int (nI bt.2.2), .int (nI px), .int (nI pcs)])) :: (ka_, .inl (cI, 256, .inl (k2 kd))) :: (na_, .inl (cI, 256, .inl (l1 bt.1))) :: (jo_, .inl (cI, 100, .inl (nf bt.2.1))) :: (me_, .inl (cI, 100, .inl (nf (metJ bt.1 (nI x) (nI y + (nI i - 1)) j (metI bt.1 (nI x) (nI y) i me))))) :: R) → va_S A s.heap H locs → lv_has ls 6 [(4, .int (nI j - 1)), (3, .int (nI i - 1)), (0, .ref b_), (1, .int (nI x)), (2, .int (nI y))] → W p l e (headSpec wsX0_meetRound rX0_meetRound).room s m ([.ref b_, .int (nI x), .int (nI y)] : List Value).toArray below meth c H locs 0 0 Q (F0 m 10 ls []) := by
          intro n_10
          induction n_10 with
          | zero => intro j hj hn_; exact absurd hn_ (Nat.not_lt_zero _)
          | succ n_10 ih_10 =>
            intro j hj hn_10 H locs ls hP hD hS hl
            refine lv_iload hx hb dX0_meetRound_10 (lv_at hl 0 rfl) ?_
            refine lv_iconst (v := 1) hx hb dX0_meetRound_12 (by decide) ?_
            refine lv_icmp_gt (tgt := 55) hx hb dX0_meetRound_13 (by decide) (fun c13 => ?_) (fun c13 => ?_)
            · skip
              have hE13 : 3 = j := by have := (j1_gt (by omega)).mp c13; omega
              subst hE13
              obtain ⟨x55, ex55⟩ : ∃ y : Int32, y = (nI i - 1) + 1 := ⟨_, rfl⟩
              refine lv_iinc (v := x55) (lv' := [(3, .int x55), (4, .int (nI 3 - 1)), (0, .ref b_), (1, .int (nI x)), (2, .int (nI y))]) hx hb dX0_meetRound_55 hl (k := 1) rfl (by rw [ex55]; rfl) (by decide) rfl (fun ls hl => ?_)
              obtain rfl : x55 = nI (i + 1) - 1 := by rw [ex55]; exact j1_s _
              refine lv_goto (tgt := 2) hx hb dX0_meetRound_58 (by decide) ?_
              exact ih_2 (i + 1) (by omega) (by omega) H locs ls hP hD hS (lv_sub hl [0, 2, 3, 4] rfl)
            · skip
              have hj8 : j < 3 := by have := mt (j1_gt (j := j) (by omega)).mpr c13; omega
              refine lv_aload_n hx hb dX0_meetRound_16 rfl (lv_at hl 2 rfl) ?_
              refine lv_iload_n hx hb dX0_meetRound_17 rfl (lv_at hl 3 rfl) ?_
              refine lv_iload hx hb dX0_meetRound_18 (lv_at hl 0 rfl) ?_
              refine lv_iadd hx hb dX0_meetRound_20 ?_
              refine lv_topi (fun x20 ex20 => ?_)
              obtain rfl : x20 = nI x + (nI j - 1) := by exact ex20
              refine lv_iload_n hx hb dX0_meetRound_21 rfl (lv_at hl 4 rfl) ?_
              refine lv_iload_n hx hb dX0_meetRound_22 rfl (lv_at hl 1 rfl) ?_
              refine lv_iadd hx hb dX0_meetRound_23 ?_
              refine lv_topi (fun x23 ex23 => ?_)
              obtain rfl : x23 = nI y + (nI i - 1) := by exact ex23
              refine gc_Vi (As := [.int (nI x + (nI j - 1)), .int (nI y + (nI i - 1))]) (rest := []) (ci := 1) (q0 := 0) ⟨hx, hb, hml, hown, hts⟩ (c_X0_pieceAt l D cI cJ cG H.size R b_ ka_ na_ jo_ me_ kd (metJ bt.1 (nI x) (nI y + (nI i - 1)) j (metI bt.1 (nI x) (nI y) i me)) px pcs bt (nI x + (nI j - 1)) (nI y + (nI i - 1))) (cwV 2 hts gX0_meetRound_X0_pieceAt rfl rfl rfl (by decide +kernel) ⟨Nat.le_of_ble_eq_true rfl, Nat.le_of_ble_eq_true rfl⟩) rfl rfl rfl hK hP hD hS hA rfl hl.1 rfl (Nat.le_of_ble_eq_true rfl) dX0_meetRound_24 ⟨Nat.le_of_ble_eq_true rfl, Nat.le_of_ble_eq_true rfl⟩ (fun r24 u24 H locs h24 hP hD hS => ?_)
              subst h24
              have hP : va_P D vwCl ((b_, .inr (1, [.ref ka_, .ref na_, .ref jo_, .ref me_, .int (nI bt.2.2), .int (nI px), .int (nI pcs)])) :: (ka_, .inl (cI, 256, .inl (k2 kd))) :: (na_, .inl (cI, 256, .inl (l1 bt.1))) :: (jo_, .inl (cI, 100, .inl (nf bt.2.1))) :: (me_, .inl (cI, 100, .inl (nf (metJ bt.1 (nI x) (nI y + (nI i - 1)) j (metI bt.1 (nI x) (nI y) i me))))) :: R) H := hP
              have hD : va_D A ((b_, .inr (1, [.ref ka_, .ref na_, .ref jo_, .ref me_, .int (nI bt.2.2), .int (nI px), .int (nI pcs)])) :: (ka_, .inl (cI, 256, .inl (k2 kd))) :: (na_, .inl (cI, 256, .inl (l1 bt.1))) :: (jo_, .inl (cI, 100, .inl (nf bt.2.1))) :: (me_, .inl (cI, 100, .inl (nf (metJ bt.1 (nI x) (nI y + (nI i - 1)) j (metI bt.1 (nI x) (nI y) i me))))) :: R) := hD
              refine lv_istore (lv' := [(5, .int (paN bt.1 (nI x + (nI j - 1)) (nI y + (nI i - 1)))), (4, .int (nI j - 1)), (3, .int (nI i - 1)), (0, .ref b_), (1, .int (nI x)), (2, .int (nI y))]) hx hb dX0_meetRound_27 hl (by decide) rfl (fun ls hl => ?_)
              refine lv_iload hx hb dX0_meetRound_29 (lv_at hl 0 rfl) ?_
              refine lv_if_lt (tgt := 49) hx hb dX0_meetRound_31 (by decide) (fun c31 => ?_) (fun c31 => ?_)
              · skip
                have hno : ¬ inB (paN bt.1 (nI x + (nI j - 1)) (nI y + (nI i - 1))) 100 = true := by rw [inB_f1 c31]; exact Bool.false_ne_true
                rw [show (metJ bt.1 (nI x) (nI y + (nI i - 1)) j (metI bt.1 (nI x) (nI y) i me)) = (metJ bt.1 (nI x) (nI y + (nI i - 1)) (j + 1) (metI bt.1 (nI x) (nI y) i me)) from (if_neg hno).symm] at hP hD
                obtain ⟨x49, ex49⟩ : ∃ y : Int32, y = (nI j - 1) + 1 := ⟨_, rfl⟩
                refine lv_iinc (v := x49) (lv' := [(4, .int x49), (5, .int (paN bt.1 (nI x + (nI j - 1)) (nI y + (nI i - 1)))), (3, .int (nI i - 1)), (0, .ref b_), (1, .int (nI x)), (2, .int (nI y))]) hx hb dX0_meetRound_49 hl (k := 1) rfl (by rw [ex49]; rfl) (by decide) rfl (fun ls hl => ?_)
                obtain rfl : x49 = nI (j + 1) - 1 := by rw [ex49]; exact j1_s _
                refine lv_goto (tgt := 10) hx hb dX0_meetRound_52 (by decide) ?_
                exact ih_10 (j + 1) (by omega) (by omega) H locs ls hP hD hS (lv_sub hl [0, 2, 3, 4, 5] rfl)
              · skip
                refine lv_iload hx hb dX0_meetRound_34 (lv_at hl 0 rfl) ?_
                refine lv_bipush (v := 100) hx hb dX0_meetRound_36 (by decide) ?_
                refine lv_icmp_ge (tgt := 49) hx hb dX0_meetRound_38 (by decide) (fun c38 => ?_) (fun c38 => ?_)
                · skip
                  have hno : ¬ inB (paN bt.1 (nI x + (nI j - 1)) (nI y + (nI i - 1))) 100 = true := by rw [inB_f2 (n := 100) (by omega) c38]; exact Bool.false_ne_true
                  rw [show (metJ bt.1 (nI x) (nI y + (nI i - 1)) j (metI bt.1 (nI x) (nI y) i me)) = (metJ bt.1 (nI x) (nI y + (nI i - 1)) (j + 1) (metI bt.1 (nI x) (nI y) i me)) from (if_neg hno).symm] at hP hD
                  obtain ⟨x49, ex49⟩ : ∃ y : Int32, y = (nI j - 1) + 1 := ⟨_, rfl⟩
                  refine lv_iinc (v := x49) (lv' := [(4, .int x49), (5, .int (paN bt.1 (nI x + (nI j - 1)) (nI y + (nI i - 1)))), (3, .int (nI i - 1)), (0, .ref b_), (1, .int (nI x)), (2, .int (nI y))]) hx hb dX0_meetRound_49 hl (k := 1) rfl (by rw [ex49]; rfl) (by decide) rfl (fun ls hl => ?_)
                  obtain rfl : x49 = nI (j + 1) - 1 := by rw [ex49]; exact j1_s _
                  refine lv_goto (tgt := 10) hx hb dX0_meetRound_52 (by decide) ?_
                  exact ih_10 (j + 1) (by omega) (by omega) H locs ls hP hD hS (lv_sub hl [0, 2, 3, 4, 5] rfl)
                · skip
                  have hyes : inB (paN bt.1 (nI x + (nI j - 1)) (nI y + (nI i - 1))) 100 = true := inB_t (n := 100) (by omega) c31 c38
                  refine lv_aload_n hx hb dX0_meetRound_41 rfl (lv_at hl 3 rfl) ?_
                  refine va_get (D := D) (ci := 1) (v := .ref me_) (C := RX0) (T := TX0) (N := 7) hx hb hts in_X0 hown hK hP 0 rfl rfl 3 (by decide) f_21 (fun _ h9 => h9) rfl dX0_meetRound_42 ?_
                  refine lv_iload hx hb dX0_meetRound_45 (lv_at hl 0 rfl) ?_
                  refine lv_iconst (v := 1) hx hb dX0_meetRound_47 (by decide) ?_
                  refine va_iast hx hb hK hP hD hS 4 0 rfl rfl (inB_vp hyes) dX0_meetRound_48 (fun H locs hP hD hS => ?_)
                  have hP : va_P D vwCl ((b_, .inr (1, [.ref ka_, .ref na_, .ref jo_, .ref me_, .int (nI bt.2.2), .int (nI px), .int (nI pcs)])) :: (ka_, .inl (cI, 256, .inl (k2 kd))) :: (na_, .inl (cI, 256, .inl (l1 bt.1))) :: (jo_, .inl (cI, 100, .inl (nf bt.2.1))) :: (me_, .inl (cI, 100, .inl (upd (nf (metJ bt.1 (nI x) (nI y + (nI i - 1)) j (metI bt.1 (nI x) (nI y) i me))) ((paN bt.1 (nI x + (nI j - 1)) (nI y + (nI i - 1)))).toNatClampNeg 1))) :: R) H := hP
                  have hD : va_D A ((b_, .inr (1, [.ref ka_, .ref na_, .ref jo_, .ref me_, .int (nI bt.2.2), .int (nI px), .int (nI pcs)])) :: (ka_, .inl (cI, 256, .inl (k2 kd))) :: (na_, .inl (cI, 256, .inl (l1 bt.1))) :: (jo_, .inl (cI, 100, .inl (nf bt.2.1))) :: (me_, .inl (cI, 100, .inl (upd (nf (metJ bt.1 (nI x) (nI y + (nI i - 1)) j (metI bt.1 (nI x) (nI y) i me))) ((paN bt.1 (nI x + (nI j - 1)) (nI y + (nI i - 1)))).toNatClampNeg 1))) :: R) := hD
                  have hW_ : upd (nf (metJ bt.1 (nI x) (nI y + (nI i - 1)) j (metI bt.1 (nI x) (nI y) i me))) ((paN bt.1 (nI x + (nI j - 1)) (nI y + (nI i - 1)))).toNatClampNeg 1 = nf (metJ bt.1 (nI x) (nI y + (nI i - 1)) (j + 1) (metI bt.1 (nI x) (nI y) i me)) := by rw [show (1 : Int32) = nI 1 from rfl, nf_upd]; exact congrArg nf (if_pos hyes).symm
                  rw [hW_] at hP hD
                  have hP : va_P D vwCl ((b_, .inr (1, [.ref ka_, .ref na_, .ref jo_, .ref me_, .int (nI bt.2.2), .int (nI px), .int (nI pcs)])) :: (ka_, .inl (cI, 256, .inl (k2 kd))) :: (na_, .inl (cI, 256, .inl (l1 bt.1))) :: (jo_, .inl (cI, 100, .inl (nf bt.2.1))) :: (me_, .inl (cI, 100, .inl (nf (metJ bt.1 (nI x) (nI y + (nI i - 1)) (j + 1) (metI bt.1 (nI x) (nI y) i me))))) :: R) H := hP
                  have hD : va_D A ((b_, .inr (1, [.ref ka_, .ref na_, .ref jo_, .ref me_, .int (nI bt.2.2), .int (nI px), .int (nI pcs)])) :: (ka_, .inl (cI, 256, .inl (k2 kd))) :: (na_, .inl (cI, 256, .inl (l1 bt.1))) :: (jo_, .inl (cI, 100, .inl (nf bt.2.1))) :: (me_, .inl (cI, 100, .inl (nf (metJ bt.1 (nI x) (nI y + (nI i - 1)) (j + 1) (metI bt.1 (nI x) (nI y) i me))))) :: R) := hD
                  obtain ⟨x49, ex49⟩ : ∃ y : Int32, y = (nI j - 1) + 1 := ⟨_, rfl⟩
                  refine lv_iinc (v := x49) (lv' := [(4, .int x49), (5, .int (paN bt.1 (nI x + (nI j - 1)) (nI y + (nI i - 1)))), (3, .int (nI i - 1)), (0, .ref b_), (1, .int (nI x)), (2, .int (nI y))]) hx hb dX0_meetRound_49 hl (k := 1) rfl (by rw [ex49]; rfl) (by decide) rfl (fun ls hl => ?_)
                  obtain rfl : x49 = nI (j + 1) - 1 := by rw [ex49]; exact j1_s _
                  refine lv_goto (tgt := 10) hx hb dX0_meetRound_52 (by decide) ?_
                  exact ih_10 (j + 1) (by omega) (by omega) H locs ls hP hD hS (lv_sub hl [0, 2, 3, 4, 5] rfl)
        exact L_10 _ 0 (Nat.zero_le _) (Nat.lt_succ_self _) H locs ls hP hD hS (lv_sub hl [0, 1, 2, 3, 4] rfl)
  exact L_2 _ 0 (Nat.zero_le _) (Nat.lt_succ_self _) H locs ls hP hD hS (lv_sub hl [0, 1, 2, 3] rfl)
abbrev rX0_countNeighbours : Room := { frames := 3, cells := 0, slots := 0, locals := 68 }
set_option maxHeartbeats 4000000 in
set_option maxRecDepth 100000 in
theorem c_X0_countNeighbours (l : Launch) (D : va_G) (cI cJ cG : ClassId) (sz : Nat) (R : va_W) (b_ ka_ na_ jo_ me_ : Nat) (kd me : Nat → Nat) (px pcs : Nat) (bt : Bst) (q : Nat) (hq : q ≤ 256) (hkd : ∀ p, kd p ≤ 6) (hbt : Bok bt) : Met l yX0_countNeighbours wsX0_countNeighbours rX0_countNeighbours (gP D (tyl cI cJ cG) [.ref b_, .int (nI q)] ((b_, .inr (1, [.ref ka_, .ref na_, .ref jo_, .ref me_, .int (nI bt.2.2), .int (nI px), .int (nI pcs)])) :: (ka_, .inl (cI, 256, .inl (k2 kd))) :: (na_, .inl (cI, 256, .inl (l1 bt.1))) :: (jo_, .inl (cI, 100, .inl (nf bt.2.1))) :: (me_, .inl (cI, 100, .inl (nf me))) :: R) sz) (gQi D (tyl cI cJ cG) ((b_, .inr (1, [.ref ka_, .ref na_, .ref jo_, .ref me_, .int (nI bt.2.2), .int (nI px), .int (nI pcs)])) :: (ka_, .inl (cI, 256, .inl (k2 kd))) :: (na_, .inl (cI, 256, .inl (l1 bt.1))) :: (jo_, .inl (cI, 100, .inl (nf bt.2.1))) :: (me_, .inl (cI, 100, .inl (nf me))) :: R) sz (fun r (_ : Unit) => r = nI (nbN bt.1 q (fu (fun _ => 0) me 100) 100)) (fun _ => ((b_, .inr (1, [.ref ka_, .ref na_, .ref jo_, .ref me_, .int (nI bt.2.2), .int (nI px), .int (nI pcs)])) :: (ka_, .inl (cI, 256, .inl (k2 kd))) :: (na_, .inl (cI, 256, .inl (l1 bt.1))) :: (jo_, .inl (cI, 100, .inl (nf bt.2.1))) :: (me_, .inl (cI, 100, .inl (nf (metP bt.1 q (fu (fun _ => 0) me 100) 256)))) :: R))) 0 0 (va_A ((b_, .inr (1, [.ref ka_, .ref na_, .ref jo_, .ref me_, .int (nI bt.2.2), .int (nI px), .int (nI pcs)])) :: (ka_, .inl (cI, 256, .inl (k2 kd))) :: (na_, .inl (cI, 256, .inl (l1 bt.1))) :: (jo_, .inl (cI, 100, .inl (nf bt.2.1))) :: (me_, .inl (cI, 100, .inl (nf me))) :: R) sz) := by
  refine gMet (cc := cX0_countNeighbours) (maxL := 4) (ret := (some .int)) (ls0 := [(0, .ref b_), (1, .int (nI q))]) (by decide) rfl (Nat.le_of_ble_eq_true rfl) rfl ?_
  intro p e s m below meth c hx hb hr hts hown hlocks hml hname A hA hAe hsz Q hQe H locs hP hK hD hS ls hl
  have hown : s.vm.findClass RX0 = some m.cls := hown
  have in_X0 : ∀ w ∈ wsX00, w ∈ wsX0_countNeighbours := by decide +kernel
  have f_21 := hts (.fieldLink RX0 21 "SpectrumHeads$Belt" "met" "[I") (by decide +kernel)
  have f_15 := hts (.fieldLink RX0 15 "SpectrumHeads$Belt" "numberAt" "[I") (by decide +kernel)
  refine lv_aload_n hx hb dX0_countNeighbours_0 rfl (lv_at hl 0 rfl) ?_
  refine va_get (D := D) (ci := 1) (v := .ref me_) (C := RX0) (T := TX0) (N := 7) hx hb hts in_X0 hown hK hP 0 rfl rfl 3 (by decide) f_21 (fun _ h9 => h9) rfl dX0_countNeighbours_1 ?_
  refine lv_iconst (v := 0) hx hb dX0_countNeighbours_4 (by decide) ?_
  have hP := pm_4_0_1_2_3_P hP
  have hD := pm_4_0_1_2_3_D hD
  refine gc_Sv (As := [.ref me_, .int 0]) (rest := []) ⟨hx, hb, hml, hown, hts⟩ (c_J7_fill_53178 l D cI cJ cG H.size ((b_, .inr (1, [.ref ka_, .ref na_, .ref jo_, .ref me_, .int (nI bt.2.2), .int (nI px), .int (nI pcs)])) :: (ka_, .inl (cI, 256, .inl (k2 kd))) :: (na_, .inl (cI, 256, .inl (l1 bt.1))) :: (jo_, .inl (cI, 100, .inl (nf bt.2.1))) :: R) me_ 100 (nf me) 0 (by omega)) (va_cwS 2 hts gX0_countNeighbours_J7_fill_53178 rfl rfl rfl (by decide +kernel) ⟨Nat.le_of_ble_eq_true rfl, Nat.le_of_ble_eq_true rfl⟩) hK hP hD hS hA rfl hl.1 rfl (Nat.le_of_ble_eq_true rfl) dX0_countNeighbours_5 ⟨Nat.le_of_ble_eq_true rfl, Nat.le_of_ble_eq_true rfl⟩ (fun u5 H locs h5 hP hD hS => ?_)
  have hP : va_P D vwCl ((me_, .inl (cI, 100, .inl (fu (fun _ => (0 : Int32)) (nf me) 100))) :: (b_, .inr (1, [.ref ka_, .ref na_, .ref jo_, .ref me_, .int (nI bt.2.2), .int (nI px), .int (nI pcs)])) :: (ka_, .inl (cI, 256, .inl (k2 kd))) :: (na_, .inl (cI, 256, .inl (l1 bt.1))) :: (jo_, .inl (cI, 100, .inl (nf bt.2.1))) :: R) H := hP
  have hD : va_D A ((me_, .inl (cI, 100, .inl (fu (fun _ => (0 : Int32)) (nf me) 100))) :: (b_, .inr (1, [.ref ka_, .ref na_, .ref jo_, .ref me_, .int (nI bt.2.2), .int (nI px), .int (nI pcs)])) :: (ka_, .inl (cI, 256, .inl (k2 kd))) :: (na_, .inl (cI, 256, .inl (l1 bt.1))) :: (jo_, .inl (cI, 100, .inl (nf bt.2.1))) :: R) := hD
  rw [show fu (fun _ => (0 : Int32)) (nf me) 100 = nf (metP bt.1 q (fu (fun _ => 0) me 100) 0) from fu_nf (g := fun _ => 0)] at hP hD
  have hP := pm_1_2_3_4_0_P hP
  have hD := pm_1_2_3_4_0_D hD
  have hP : va_P D vwCl ((b_, .inr (1, [.ref ka_, .ref na_, .ref jo_, .ref me_, .int (nI bt.2.2), .int (nI px), .int (nI pcs)])) :: (ka_, .inl (cI, 256, .inl (k2 kd))) :: (na_, .inl (cI, 256, .inl (l1 bt.1))) :: (jo_, .inl (cI, 100, .inl (nf bt.2.1))) :: (me_, .inl (cI, 100, .inl (nf (metP bt.1 q (fu (fun _ => 0) me 100) 0)))) :: R) H := hP
  have hD : va_D A ((b_, .inr (1, [.ref ka_, .ref na_, .ref jo_, .ref me_, .int (nI bt.2.2), .int (nI px), .int (nI pcs)])) :: (ka_, .inl (cI, 256, .inl (k2 kd))) :: (na_, .inl (cI, 256, .inl (l1 bt.1))) :: (jo_, .inl (cI, 100, .inl (nf bt.2.1))) :: (me_, .inl (cI, 100, .inl (nf (metP bt.1 q (fu (fun _ => 0) me 100) 0)))) :: R) := hD
  refine lv_iconst (v := 0) hx hb dX0_countNeighbours_8 (by decide) ?_
  refine lv_istore_n (lv' := [(2, .int 0), (0, .ref b_), (1, .int (nI q))]) hx hb dX0_countNeighbours_9 rfl hl (by decide) rfl (fun ls hl => ?_)
  have L_10 : ∀ (n_10 : Nat) (i : Nat) (hi : i ≤ 256), 256 - i < n_10 → ∀ (H : Heap) (locs : List Loc) (ls : Array Slot), va_P D vwCl ((b_, .inr (1, [.ref ka_, .ref na_, .ref jo_, .ref me_, .int (nI bt.2.2), .int (nI px), .int (nI pcs)])) :: (ka_, .inl (cI, 256, .inl (k2 kd))) :: (na_, .inl (cI, 256, .inl (l1 bt.1))) :: (jo_, .inl (cI, 100, .inl (nf bt.2.1))) :: (me_, .inl (cI, 100, .inl (nf (metP bt.1 q (fu (fun _ => 0) me 100) i)))) :: R) H → va_D A ((b_, .inr (1, [.ref ka_, .ref na_, .ref jo_, .ref me_, .int (nI bt.2.2), .int (nI px), .int (nI pcs)])) :: (ka_, .inl (cI, 256, .inl (k2 kd))) :: (na_, .inl (cI, 256, .inl (l1 bt.1))) :: (jo_, .inl (cI, 100, .inl (nf bt.2.1))) :: (me_, .inl (cI, 100, .inl (nf (metP bt.1 q (fu (fun _ => 0) me 100) i)))) :: R) → va_S A s.heap H locs → lv_has ls 4 [(2, .int (nI i)), (0, .ref b_), (1, .int (nI q))] → W p l e (headSpec wsX0_countNeighbours rX0_countNeighbours).room s m ([.ref b_, .int (nI q)] : List Value).toArray below meth c H locs 0 0 Q (F0 m 10 ls []) := by
    intro n_10
    induction n_10 with
    | zero => intro i hi hn_; exact absurd hn_ (Nat.not_lt_zero _)
    | succ n_10 ih_10 =>
      intro i hi hn_10 H locs ls hP hD hS hl
      refine lv_iload_n hx hb dX0_countNeighbours_10 rfl (lv_at hl 0 rfl) ?_
      refine lv_sipush (v := 256) hx hb dX0_countNeighbours_11 (by decide) ?_
      refine lv_icmp_ge (tgt := 45) hx hb dX0_countNeighbours_14 (by decide) (fun c14 => ?_) (fun c14 => ?_)
      · skip
        have hE14 := lp_e (n := 256) c14 hi
        subst hE14
        refine lv_iconst (v := 0) hx hb dX0_countNeighbours_45 (by decide) ?_
        refine lv_istore_n (lv' := [(2, .int 0), (0, .ref b_), (1, .int (nI q))]) hx hb dX0_countNeighbours_46 rfl hl (by decide) rfl (fun ls hl => ?_)
        refine lv_iconst (v := 0) hx hb dX0_countNeighbours_47 (by decide) ?_
        refine lv_istore_n (lv' := [(3, .int 0), (2, .int 0), (0, .ref b_), (1, .int (nI q))]) hx hb dX0_countNeighbours_48 rfl hl (by decide) rfl (fun ls hl => ?_)
        have L_49 : ∀ (n_49 : Nat) (o : Nat) (ho : o ≤ 100), 100 - o < n_49 → ∀ (H : Heap) (locs : List Loc) (ls : Array Slot), va_P D vwCl ((b_, .inr (1, [.ref ka_, .ref na_, .ref jo_, .ref me_, .int (nI bt.2.2), .int (nI px), .int (nI pcs)])) :: (ka_, .inl (cI, 256, .inl (k2 kd))) :: (na_, .inl (cI, 256, .inl (l1 bt.1))) :: (jo_, .inl (cI, 100, .inl (nf bt.2.1))) :: (me_, .inl (cI, 100, .inl (nf (metP bt.1 q (fu (fun _ => 0) me 100) 256)))) :: R) H → va_D A ((b_, .inr (1, [.ref ka_, .ref na_, .ref jo_, .ref me_, .int (nI bt.2.2), .int (nI px), .int (nI pcs)])) :: (ka_, .inl (cI, 256, .inl (k2 kd))) :: (na_, .inl (cI, 256, .inl (l1 bt.1))) :: (jo_, .inl (cI, 100, .inl (nf bt.2.1))) :: (me_, .inl (cI, 100, .inl (nf (metP bt.1 q (fu (fun _ => 0) me 100) 256)))) :: R) → va_S A s.heap H locs → lv_has ls 4 [(3, .int (nI o)), (2, .int (nI (nbN bt.1 q (fu (fun _ => 0) me 100) o))), (0, .ref b_), (1, .int (nI q))] → W p l e (headSpec wsX0_countNeighbours rX0_countNeighbours).room s m ([.ref b_, .int (nI q)] : List Value).toArray below meth c H locs 0 0 Q (F0 m 49 ls []) := by
          intro n_49
          induction n_49 with
          | zero => intro o ho hn_; exact absurd hn_ (Nat.not_lt_zero _)
          | succ n_49 ih_49 =>
            intro o ho hn_49 H locs ls hP hD hS hl
            refine lv_iload_n hx hb dX0_countNeighbours_49 rfl (lv_at hl 0 rfl) ?_
            refine lv_bipush (v := 100) hx hb dX0_countNeighbours_50 (by decide) ?_
            refine lv_icmp_ge (tgt := 79) hx hb dX0_countNeighbours_52 (by decide) (fun c52 => ?_) (fun c52 => ?_)
            · skip
              have hE52 := lp_e (n := 100) c52 ho
              subst hE52
              refine lv_iload_n hx hb dX0_countNeighbours_79 rfl (lv_at hl 1 rfl) ?_
              subst hQe
              subst hAe
              subst hsz
              exact g_iret hx hb hr hlocks () rfl hP hK hD hS dX0_countNeighbours_80
            · skip
              have ho8 := lp_l (n := 100) c52 ho
              refine lv_iload_n hx hb dX0_countNeighbours_55 rfl (lv_at hl 1 rfl) ?_
              refine lv_iload_n hx hb dX0_countNeighbours_56 rfl (lv_at hl 0 rfl) ?_
              refine lv_iload_n hx hb dX0_countNeighbours_57 rfl (lv_at hl 3 rfl) ?_
              refine lv_icmp_ne (tgt := 65) hx hb dX0_countNeighbours_58 (by decide) (fun c58 => ?_) (fun c58 => ?_)
              · skip
                have hoq : ¬ o = q := fun h => c58 (by rw [h])
                refine lv_aload_n hx hb dX0_countNeighbours_65 rfl (lv_at hl 2 rfl) ?_
                refine va_get (D := D) (ci := 1) (v := .ref me_) (C := RX0) (T := TX0) (N := 7) hx hb hts in_X0 hown hK hP 0 rfl rfl 3 (by decide) f_21 (fun _ h9 => h9) rfl dX0_countNeighbours_66 ?_
                refine lv_iload_n hx hb dX0_countNeighbours_69 rfl (lv_at hl 0 rfl) ?_
                refine va_iald hx hb hK hP (4) 0 rfl rfl (by first | exact vp_in_nI (by omega) (by omega) | assumption) dX0_countNeighbours_70 ?_
                refine lv_topi (fun x70 ex70 => ?_)
                rw [nI_clamp (by omega)] at ex70
                obtain rfl : x70 = nI ((metP bt.1 q (fu (fun _ => 0) me 100) 256) o) := by exact ex70
                refine lv_iadd hx hb dX0_countNeighbours_71 ?_
                refine lv_topi (fun x71 ex71 => ?_)
                obtain rfl : x71 = nI (nbN bt.1 q (fu (fun _ => 0) me 100) (o + 1)) := by rw [ex71]; first | exact (nI_add _ _).trans (congrArg nI (nbN_n hoq)) | exact (nI_add _ 0).trans (congrArg nI (nbN_s hoq))
                refine lv_istore_n (lv' := [(2, .int (nI (nbN bt.1 q (fu (fun _ => 0) me 100) (o + 1)))), (3, .int (nI o)), (0, .ref b_), (1, .int (nI q))]) hx hb dX0_countNeighbours_72 rfl hl (by decide) rfl (fun ls hl => ?_)
                obtain ⟨x73, ex73⟩ : ∃ y : Int32, y = (nI o) + 1 := ⟨_, rfl⟩
                refine lv_iinc (v := x73) (lv' := [(3, .int x73), (2, .int (nI (nbN bt.1 q (fu (fun _ => 0) me 100) (o + 1)))), (0, .ref b_), (1, .int (nI q))]) hx hb dX0_countNeighbours_73 hl (k := 1) rfl (by rw [ex73]; rfl) (by decide) rfl (fun ls hl => ?_)
                obtain rfl : x73 = nI (o + 1) := by rw [ex73]; exact nI_1 _
                refine lv_goto (tgt := 49) hx hb dX0_countNeighbours_76 (by decide) ?_
                exact ih_49 (o + 1) (by omega) (by omega) H locs ls hP hD hS (lv_sub hl [0, 1, 2, 3] rfl)
              · skip
                have hoq : o = q := (nI_eq (by omega) (by omega)).mp c58
                refine lv_iconst (v := 0) hx hb dX0_countNeighbours_61 (by decide) ?_
                refine lv_goto (tgt := 71) hx hb dX0_countNeighbours_62 (by decide) ?_
                refine lv_iadd hx hb dX0_countNeighbours_71 ?_
                refine lv_topi (fun x71 ex71 => ?_)
                obtain rfl : x71 = nI (nbN bt.1 q (fu (fun _ => 0) me 100) (o + 1)) := by rw [ex71]; first | exact (nI_add _ _).trans (congrArg nI (nbN_n hoq)) | exact (nI_add _ 0).trans (congrArg nI (nbN_s hoq))
                refine lv_istore_n (lv' := [(2, .int (nI (nbN bt.1 q (fu (fun _ => 0) me 100) (o + 1)))), (3, .int (nI o)), (0, .ref b_), (1, .int (nI q))]) hx hb dX0_countNeighbours_72 rfl hl (by decide) rfl (fun ls hl => ?_)
                obtain ⟨x73, ex73⟩ : ∃ y : Int32, y = (nI o) + 1 := ⟨_, rfl⟩
                refine lv_iinc (v := x73) (lv' := [(3, .int x73), (2, .int (nI (nbN bt.1 q (fu (fun _ => 0) me 100) (o + 1)))), (0, .ref b_), (1, .int (nI q))]) hx hb dX0_countNeighbours_73 hl (k := 1) rfl (by rw [ex73]; rfl) (by decide) rfl (fun ls hl => ?_)
                obtain rfl : x73 = nI (o + 1) := by rw [ex73]; exact nI_1 _
                refine lv_goto (tgt := 49) hx hb dX0_countNeighbours_76 (by decide) ?_
                exact ih_49 (o + 1) (by omega) (by omega) H locs ls hP hD hS (lv_sub hl [0, 1, 2, 3] rfl)
        exact L_49 _ 0 (Nat.zero_le _) (Nat.lt_succ_self _) H locs ls hP hD hS (lv_sub hl [0, 1, 2, 3] rfl)
      · skip
        have hi8 := lp_l (n := 256) c14 hi
        have hl6 := hbt.1 i
        refine lv_aload_n hx hb dX0_countNeighbours_17 rfl (lv_at hl 1 rfl) ?_
        refine va_get (D := D) (ci := 1) (v := .ref na_) (C := RX0) (T := TX0) (N := 7) hx hb hts in_X0 hown hK hP 0 rfl rfl 1 (by decide) f_15 (fun _ h9 => h9) rfl dX0_countNeighbours_18 ?_
        refine lv_iload_n hx hb dX0_countNeighbours_21 rfl (lv_at hl 0 rfl) ?_
        refine va_iald hx hb hK hP (2) 0 rfl rfl (by first | exact vp_in_nI (by omega) (by omega) | assumption) dX0_countNeighbours_22 ?_
        refine lv_topi (fun x22 ex22 => ?_)
        rw [nI_clamp (by omega)] at ex22
        obtain rfl : x22 = nI (bt.1 i) - 1 := by exact ex22
        refine lv_iload_n hx hb dX0_countNeighbours_23 rfl (lv_at hl 2 rfl) ?_
        refine lv_icmp_ne (tgt := 39) hx hb dX0_countNeighbours_24 (by decide) (fun c24 => ?_) (fun c24 => ?_)
        · skip
          have hno : ¬ bt.1 i = q + 1 := mt (l1_eq (b := q) (by omega) (by omega)).mpr c24
          rw [metP_n hno] at hP hD
          obtain ⟨x39, ex39⟩ : ∃ y : Int32, y = (nI i) + 1 := ⟨_, rfl⟩
          refine lv_iinc (v := x39) (lv' := [(2, .int x39), (0, .ref b_), (1, .int (nI q))]) hx hb dX0_countNeighbours_39 hl (k := 0) rfl (by rw [ex39]; rfl) (by decide) rfl (fun ls hl => ?_)
          obtain rfl : x39 = nI (i + 1) := by rw [ex39]; exact nI_1 _
          refine lv_goto (tgt := 10) hx hb dX0_countNeighbours_42 (by decide) ?_
          exact ih_10 (i + 1) (by omega) (by omega) H locs ls hP hD hS (lv_sub hl [0, 1, 2] rfl)
        · skip
          have hyes : bt.1 i = q + 1 := (l1_eq (by omega) (by omega)).mp c24
          refine lv_aload_n hx hb dX0_countNeighbours_27 rfl (lv_at hl 1 rfl) ?_
          refine lv_iload_n hx hb dX0_countNeighbours_28 rfl (lv_at hl 0 rfl) ?_
          refine lv_bipush (v := 16) hx hb dX0_countNeighbours_29 (by decide) ?_
          refine lv_irem hx hb dX0_countNeighbours_31 (by decide) ?_
          refine lv_topi (fun x31 ex31 => ?_)
          obtain rfl : x31 = nI (i % 16) := by rw [ex31]; exact pk_rem (d := 16) (by omega) (by omega) (by omega)
          refine lv_iload_n hx hb dX0_countNeighbours_32 rfl (lv_at hl 0 rfl) ?_
          refine lv_bipush (v := 16) hx hb dX0_countNeighbours_33 (by decide) ?_
          refine lv_idiv hx hb dX0_countNeighbours_35 (by decide) ?_
          refine lv_topi (fun x35 ex35 => ?_)
          obtain rfl : x35 = nI (i / 16) := by rw [ex35]; exact pk_div (d := 16) (by omega) (by omega) (by omega)
          refine gc_Vv (As := [.int (nI (i % 16)), .int (nI (i / 16))]) (rest := []) (ci := 1) (q0 := 0) ⟨hx, hb, hml, hown, hts⟩ (c_X0_meetRound l D cI cJ cG H.size R b_ ka_ na_ jo_ me_ kd (metP bt.1 q (fu (fun _ => 0) me 100) i) px pcs bt (i % 16) (i / 16) (by omega) (by omega)) (cwV 2 hts gX0_countNeighbours_X0_meetRound rfl rfl rfl (by decide +kernel) ⟨Nat.le_of_ble_eq_true rfl, Nat.le_of_ble_eq_true rfl⟩) rfl rfl rfl hK hP hD hS hA rfl hl.1 rfl (Nat.le_of_ble_eq_true rfl) dX0_countNeighbours_36 ⟨Nat.le_of_ble_eq_true rfl, Nat.le_of_ble_eq_true rfl⟩ (fun u36 H locs h36 hP hD hS => ?_)
          rw [metP_s hyes] at hP hD
          have hP : va_P D vwCl ((b_, .inr (1, [.ref ka_, .ref na_, .ref jo_, .ref me_, .int (nI bt.2.2), .int (nI px), .int (nI pcs)])) :: (ka_, .inl (cI, 256, .inl (k2 kd))) :: (na_, .inl (cI, 256, .inl (l1 bt.1))) :: (jo_, .inl (cI, 100, .inl (nf bt.2.1))) :: (me_, .inl (cI, 100, .inl (nf (metP bt.1 q (fu (fun _ => 0) me 100) (i + 1))))) :: R) H := hP
          have hD : va_D A ((b_, .inr (1, [.ref ka_, .ref na_, .ref jo_, .ref me_, .int (nI bt.2.2), .int (nI px), .int (nI pcs)])) :: (ka_, .inl (cI, 256, .inl (k2 kd))) :: (na_, .inl (cI, 256, .inl (l1 bt.1))) :: (jo_, .inl (cI, 100, .inl (nf bt.2.1))) :: (me_, .inl (cI, 100, .inl (nf (metP bt.1 q (fu (fun _ => 0) me 100) (i + 1))))) :: R) := hD
          obtain ⟨x39, ex39⟩ : ∃ y : Int32, y = (nI i) + 1 := ⟨_, rfl⟩
          refine lv_iinc (v := x39) (lv' := [(2, .int x39), (0, .ref b_), (1, .int (nI q))]) hx hb dX0_countNeighbours_39 hl (k := 0) rfl (by rw [ex39]; rfl) (by decide) rfl (fun ls hl => ?_)
          obtain rfl : x39 = nI (i + 1) := by rw [ex39]; exact nI_1 _
          refine lv_goto (tgt := 10) hx hb dX0_countNeighbours_42 (by decide) ?_
          exact ih_10 (i + 1) (by omega) (by omega) H locs ls hP hD hS (lv_sub hl [0, 1, 2] rfl)
  exact L_10 _ 0 (Nat.zero_le _) (Nat.lt_succ_self _) H locs ls hP hD hS (lv_sub hl [0, 1, 2] rfl)
