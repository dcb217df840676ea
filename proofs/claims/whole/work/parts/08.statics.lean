abbrev rJ7_fill_53178 : Room := { frames := 0, cells := 0, slots := 0, locals := 0 }
set_option maxHeartbeats 4000000 in
set_option maxRecDepth 100000 in
theorem c_J7_fill_53178 (l : Launch) (D : va_G) (cI cJ cG : ClassId) (sz : Nat) (R : va_W) (a_ n : Nat) (f : Nat → Int32) (v : Int32) (hn : n < 2 ^ 31) : Met l yJ7_fill_53178 wsJ7_fill_53178 rJ7_fill_53178 (gP D (tyl cI cJ cG) [.ref a_, .int v] ((a_, .inl (cI, n, .inl f)) :: R) sz) (gQv D (tyl cI cJ cG) ((a_, .inl (cI, n, .inl f)) :: R) sz (fun (_ : Unit) => True) (fun _ => ((a_, .inl (cI, n, .inl (fu (fun _ => v) f n))) :: R))) 0 0 (va_A ((a_, .inl (cI, n, .inl f)) :: R) sz) := by
  refine gMet (cc := cJ7_fill_53178) (maxL := 4) (ret := none) (ls0 := [(0, .ref a_), (1, .int v)]) (by decide) rfl (Nat.le_of_ble_eq_true rfl) rfl ?_
  intro p e s m below meth c hx hb hr hts hown hlocks hml hname A hA hAe hsz Q hQe H locs hP hK hD hS ls hl
  skip
  rw [← fu_0 (g := fun _ => v) (f := f)] at hP hD
  refine lv_iconst (v := 0) hx hb dJ7_fill_53178_0 (by decide) ?_
  refine lv_istore_n (lv' := [(2, .int 0), (0, .ref a_), (1, .int v)]) hx hb dJ7_fill_53178_1 rfl hl (by decide) rfl (fun ls hl => ?_)
  refine lv_aload_n hx hb dJ7_fill_53178_2 rfl (lv_at hl 1 rfl) ?_
  refine va_alen hx hb hK hP 0 0 rfl rfl (v := nI n) rfl dJ7_fill_53178_3 ?_
  refine lv_istore_n (lv' := [(3, .int (nI n)), (2, .int 0), (0, .ref a_), (1, .int v)]) hx hb dJ7_fill_53178_4 rfl hl (by decide) rfl (fun ls hl => ?_)
  have L_5 : ∀ (n_5 : Nat) (i : Nat) (hi : i ≤ n), n - i < n_5 → ∀ (H : Heap) (locs : List Loc) (ls : Array Slot), va_P D vwCl ((a_, .inl (cI, n, .inl (fu (fun _ => v) f i))) :: R) H → va_D A ((a_, .inl (cI, n, .inl (fu (fun _ => v) f i))) :: R) → va_S A s.heap H locs → lv_has ls 4 [(2, .int (nI i)), (3, .int (nI n)), (0, .ref a_), (1, .int v)] → W p l e (headSpec wsJ7_fill_53178 rJ7_fill_53178).room s m ([.ref a_, .int v] : List Value).toArray below meth c H locs 0 0 Q (F0 m 5 ls []) := by
    intro n_5
    induction n_5 with
    | zero => intro i hi hn_; exact absurd hn_ (Nat.not_lt_zero _)
    | succ n_5 ih_5 =>
      intro i hi hn_5 H locs ls hP hD hS hl
      refine lv_iload_n hx hb dJ7_fill_53178_5 rfl (lv_at hl 0 rfl) ?_
      refine lv_iload_n hx hb dJ7_fill_53178_6 rfl (lv_at hl 1 rfl) ?_
      refine lv_icmp_ge (tgt := 20) hx hb dJ7_fill_53178_7 (by decide) (fun c7 => ?_) (fun c7 => ?_)
      · skip
        have hi8 := lp_e (n := n) c7 hi
        subst hi8
        subst hQe
        subst hAe
        subst hsz
        exact g_vret hx hb hr hlocks () trivial hP hK hD hS dJ7_fill_53178_20
      · skip
        have hi8 := lp_l (n := n) c7 hi
        refine lv_aload_n hx hb dJ7_fill_53178_10 rfl (lv_at hl 2 rfl) ?_
        refine lv_iload_n hx hb dJ7_fill_53178_11 rfl (lv_at hl 0 rfl) ?_
        refine lv_iload_n hx hb dJ7_fill_53178_12 rfl (lv_at hl 3 rfl) ?_
        refine va_iast hx hb hK hP hD hS 0 0 rfl rfl (by first | exact vp_in_nI (by omega) (by omega) | assumption) dJ7_fill_53178_13 (fun H locs hP hD hS => ?_)
        rw [nI_clamp (by omega)] at hP hD
        have hP : va_P D vwCl ((a_, .inl (cI, n, .inl (upd (fu (fun _ => v) f i) i v))) :: R) H := hP
        have hD : va_D A ((a_, .inl (cI, n, .inl (upd (fu (fun _ => v) f i) i v))) :: R) := hD
        have hW_ : upd (fu (fun _ => v) f i) i v = fu (fun _ => v) f (i + 1) := by rw [upd_un]; exact fu_s (g := fun _ => v)
        rw [hW_] at hP hD
        have hP : va_P D vwCl ((a_, .inl (cI, n, .inl (fu (fun _ => v) f (i + 1)))) :: R) H := hP
        have hD : va_D A ((a_, .inl (cI, n, .inl (fu (fun _ => v) f (i + 1)))) :: R) := hD
        obtain ⟨x14, ex14⟩ : ∃ y : Int32, y = (nI i) + 1 := ⟨_, rfl⟩
        refine lv_iinc (v := x14) (lv' := [(2, .int x14), (3, .int (nI n)), (0, .ref a_), (1, .int v)]) hx hb dJ7_fill_53178_14 hl (k := 0) rfl (by rw [ex14]; rfl) (by decide) rfl (fun ls hl => ?_)
        obtain rfl : x14 = nI (i + 1) := by rw [ex14]; exact nI_1 _
        refine lv_goto (tgt := 5) hx hb dJ7_fill_53178_17 (by decide) ?_
        exact ih_5 (i + 1) (by omega) (by omega) H locs ls hP hD hS (lv_sub hl [0, 1, 2, 3] rfl)
  exact L_5 _ 0 (Nat.zero_le _) (Nat.lt_succ_self _) H locs ls hP hD hS (lv_sub hl [1, 0, 2, 3] rfl)
abbrev rX3_isChannel : Room := { frames := 0, cells := 0, slots := 0, locals := 0 }
set_option maxHeartbeats 4000000 in
set_option maxRecDepth 100000 in
theorem c_X3_isChannel (l : Launch) (D : va_G) (cI cJ cG : ClassId) (sz : Nat) (R : va_W) (x : Int32) : Met l yX3_isChannel wsX3_isChannel rX3_isChannel (gP D (tyl cI cJ cG) [.int x] (R) sz) (gQi D (tyl cI cJ cG) (R) sz (fun r (_ : Unit) => r = bI (inB x 8)) (fun _ => R)) 0 0 (va_A (R) sz) := by
  refine gMet (cc := cX3_isChannel) (maxL := 1) (ret := (some .boolean)) (ls0 := [(0, .int x)]) (by decide) rfl (Nat.le_of_ble_eq_true rfl) rfl ?_
  intro p e s m below meth c hx hb hr hts hown hlocks hml hname A hA hAe hsz Q hQe H locs hP hK hD hS ls hl
  have hown : s.vm.findClass RX3 = some m.cls := hown
  refine lv_iload_n hx hb dX3_isChannel_0 rfl (lv_at hl 0 rfl) ?_
  refine lv_if_lt (tgt := 14) hx hb dX3_isChannel_1 (by decide) (fun c1 => ?_) (fun c1 => ?_)
  · skip
    refine lv_iconst (v := 0) hx hb dX3_isChannel_14 (by decide) ?_
    subst hQe
    subst hAe
    subst hsz
    exact g_zret hx hb hr hlocks rfl () (by first | (rw [inB_f1 c1]; rfl) | (rw [inB_f2 (n := 8) (by omega) c7]; rfl) | (rw [inB_t (n := 8) (by omega) c1 c7]; rfl)) hP hK hD hS dX3_isChannel_15
  · skip
    refine lv_iload_n hx hb dX3_isChannel_4 rfl (lv_at hl 0 rfl) ?_
    refine lv_bipush (v := 8) hx hb dX3_isChannel_5 (by decide) ?_
    refine lv_icmp_ge (tgt := 14) hx hb dX3_isChannel_7 (by decide) (fun c7 => ?_) (fun c7 => ?_)
    · skip
      refine lv_iconst (v := 0) hx hb dX3_isChannel_14 (by decide) ?_
      subst hQe
      subst hAe
      subst hsz
      exact g_zret hx hb hr hlocks rfl () (by first | (rw [inB_f1 c1]; rfl) | (rw [inB_f2 (n := 8) (by omega) c7]; rfl) | (rw [inB_t (n := 8) (by omega) c1 c7]; rfl)) hP hK hD hS dX3_isChannel_15
    · skip
      refine lv_iconst (v := 1) hx hb dX3_isChannel_10 (by decide) ?_
      refine lv_goto (tgt := 15) hx hb dX3_isChannel_11 (by decide) ?_
      subst hQe
      subst hAe
      subst hsz
      exact g_zret hx hb hr hlocks rfl () (by first | (rw [inB_f1 c1]; rfl) | (rw [inB_f2 (n := 8) (by omega) c7]; rfl) | (rw [inB_t (n := 8) (by omega) c1 c7]; rfl)) hP hK hD hS dX3_isChannel_15
abbrev rX3_isByte : Room := { frames := 0, cells := 0, slots := 0, locals := 0 }
set_option maxHeartbeats 4000000 in
set_option maxRecDepth 100000 in
theorem c_X3_isByte (l : Launch) (D : va_G) (cI cJ cG : ClassId) (sz : Nat) (R : va_W) (x : Int32) : Met l yX3_isByte wsX3_isByte rX3_isByte (gP D (tyl cI cJ cG) [.int x] (R) sz) (gQi D (tyl cI cJ cG) (R) sz (fun r (_ : Unit) => r = bI (inB x 256)) (fun _ => R)) 0 0 (va_A (R) sz) := by
  refine gMet (cc := cX3_isByte) (maxL := 1) (ret := (some .boolean)) (ls0 := [(0, .int x)]) (by decide) rfl (Nat.le_of_ble_eq_true rfl) rfl ?_
  intro p e s m below meth c hx hb hr hts hown hlocks hml hname A hA hAe hsz Q hQe H locs hP hK hD hS ls hl
  have hown : s.vm.findClass RX3 = some m.cls := hown
  refine lv_iload_n hx hb dX3_isByte_0 rfl (lv_at hl 0 rfl) ?_
  refine lv_if_lt (tgt := 15) hx hb dX3_isByte_1 (by decide) (fun c1 => ?_) (fun c1 => ?_)
  · skip
    refine lv_iconst (v := 0) hx hb dX3_isByte_15 (by decide) ?_
    subst hQe
    subst hAe
    subst hsz
    exact g_zret hx hb hr hlocks rfl () (by first | (rw [inB_f1 c1]; rfl) | (rw [inB_f2 (n := 256) (by omega) (gt_le c8)]; rfl) | (rw [inB_t (n := 256) (by omega) c1 (ngt_nle c8)]; rfl)) hP hK hD hS dX3_isByte_16
  · skip
    refine lv_iload_n hx hb dX3_isByte_4 rfl (lv_at hl 0 rfl) ?_
    refine lv_sipush (v := 255) hx hb dX3_isByte_5 (by decide) ?_
    refine lv_icmp_gt (tgt := 15) hx hb dX3_isByte_8 (by decide) (fun c8 => ?_) (fun c8 => ?_)
    · skip
      refine lv_iconst (v := 0) hx hb dX3_isByte_15 (by decide) ?_
      subst hQe
      subst hAe
      subst hsz
      exact g_zret hx hb hr hlocks rfl () (by first | (rw [inB_f1 c1]; rfl) | (rw [inB_f2 (n := 256) (by omega) (gt_le c8)]; rfl) | (rw [inB_t (n := 256) (by omega) c1 (ngt_nle c8)]; rfl)) hP hK hD hS dX3_isByte_16
    · skip
      refine lv_iconst (v := 1) hx hb dX3_isByte_11 (by decide) ?_
      refine lv_goto (tgt := 16) hx hb dX3_isByte_12 (by decide) ?_
      subst hQe
      subst hAe
      subst hsz
      exact g_zret hx hb hr hlocks rfl () (by first | (rw [inB_f1 c1]; rfl) | (rw [inB_f2 (n := 256) (by omega) (gt_le c8)]; rfl) | (rw [inB_t (n := 256) (by omega) c1 (ngt_nle c8)]; rfl)) hP hK hD hS dX3_isByte_16
abbrev rX4_isChannel : Room := { frames := 0, cells := 0, slots := 0, locals := 0 }
set_option maxHeartbeats 4000000 in
set_option maxRecDepth 100000 in
theorem c_X4_isChannel (l : Launch) (D : va_G) (cI cJ cG : ClassId) (sz : Nat) (R : va_W) (x : Int32) : Met l yX4_isChannel wsX4_isChannel rX4_isChannel (gP D (tyl cI cJ cG) [.int x] (R) sz) (gQi D (tyl cI cJ cG) (R) sz (fun r (_ : Unit) => r = bI (inB x 8)) (fun _ => R)) 0 0 (va_A (R) sz) := by
  refine gMet (cc := cX4_isChannel) (maxL := 1) (ret := (some .boolean)) (ls0 := [(0, .int x)]) (by decide) rfl (Nat.le_of_ble_eq_true rfl) rfl ?_
  intro p e s m below meth c hx hb hr hts hown hlocks hml hname A hA hAe hsz Q hQe H locs hP hK hD hS ls hl
  have hown : s.vm.findClass RX4 = some m.cls := hown
  refine lv_iload_n hx hb dX4_isChannel_0 rfl (lv_at hl 0 rfl) ?_
  refine lv_if_lt (tgt := 14) hx hb dX4_isChannel_1 (by decide) (fun c1 => ?_) (fun c1 => ?_)
  · skip
    refine lv_iconst (v := 0) hx hb dX4_isChannel_14 (by decide) ?_
    subst hQe
    subst hAe
    subst hsz
    exact g_zret hx hb hr hlocks rfl () (by first | (rw [inB_f1 c1]; rfl) | (rw [inB_f2 (n := 8) (by omega) c7]; rfl) | (rw [inB_t (n := 8) (by omega) c1 c7]; rfl)) hP hK hD hS dX4_isChannel_15
  · skip
    refine lv_iload_n hx hb dX4_isChannel_4 rfl (lv_at hl 0 rfl) ?_
    refine lv_bipush (v := 8) hx hb dX4_isChannel_5 (by decide) ?_
    refine lv_icmp_ge (tgt := 14) hx hb dX4_isChannel_7 (by decide) (fun c7 => ?_) (fun c7 => ?_)
    · skip
      refine lv_iconst (v := 0) hx hb dX4_isChannel_14 (by decide) ?_
      subst hQe
      subst hAe
      subst hsz
      exact g_zret hx hb hr hlocks rfl () (by first | (rw [inB_f1 c1]; rfl) | (rw [inB_f2 (n := 8) (by omega) c7]; rfl) | (rw [inB_t (n := 8) (by omega) c1 c7]; rfl)) hP hK hD hS dX4_isChannel_15
    · skip
      refine lv_iconst (v := 1) hx hb dX4_isChannel_10 (by decide) ?_
      refine lv_goto (tgt := 15) hx hb dX4_isChannel_11 (by decide) ?_
      subst hQe
      subst hAe
      subst hsz
      exact g_zret hx hb hr hlocks rfl () (by first | (rw [inB_f1 c1]; rfl) | (rw [inB_f2 (n := 8) (by omega) c7]; rfl) | (rw [inB_t (n := 8) (by omega) c1 c7]; rfl)) hP hK hD hS dX4_isChannel_15
abbrev rX4_isByte : Room := { frames := 0, cells := 0, slots := 0, locals := 0 }
set_option maxHeartbeats 4000000 in
set_option maxRecDepth 100000 in
theorem c_X4_isByte (l : Launch) (D : va_G) (cI cJ cG : ClassId) (sz : Nat) (R : va_W) (x : Int32) : Met l yX4_isByte wsX4_isByte rX4_isByte (gP D (tyl cI cJ cG) [.int x] (R) sz) (gQi D (tyl cI cJ cG) (R) sz (fun r (_ : Unit) => r = bI (inB x 256)) (fun _ => R)) 0 0 (va_A (R) sz) := by
  refine gMet (cc := cX4_isByte) (maxL := 1) (ret := (some .boolean)) (ls0 := [(0, .int x)]) (by decide) rfl (Nat.le_of_ble_eq_true rfl) rfl ?_
  intro p e s m below meth c hx hb hr hts hown hlocks hml hname A hA hAe hsz Q hQe H locs hP hK hD hS ls hl
  have hown : s.vm.findClass RX4 = some m.cls := hown
  refine lv_iload_n hx hb dX4_isByte_0 rfl (lv_at hl 0 rfl) ?_
  refine lv_if_lt (tgt := 15) hx hb dX4_isByte_1 (by decide) (fun c1 => ?_) (fun c1 => ?_)
  · skip
    refine lv_iconst (v := 0) hx hb dX4_isByte_15 (by decide) ?_
    subst hQe
    subst hAe
    subst hsz
    exact g_zret hx hb hr hlocks rfl () (by first | (rw [inB_f1 c1]; rfl) | (rw [inB_f2 (n := 256) (by omega) (gt_le c8)]; rfl) | (rw [inB_t (n := 256) (by omega) c1 (ngt_nle c8)]; rfl)) hP hK hD hS dX4_isByte_16
  · skip
    refine lv_iload_n hx hb dX4_isByte_4 rfl (lv_at hl 0 rfl) ?_
    refine lv_sipush (v := 255) hx hb dX4_isByte_5 (by decide) ?_
    refine lv_icmp_gt (tgt := 15) hx hb dX4_isByte_8 (by decide) (fun c8 => ?_) (fun c8 => ?_)
    · skip
      refine lv_iconst (v := 0) hx hb dX4_isByte_15 (by decide) ?_
      subst hQe
      subst hAe
      subst hsz
      exact g_zret hx hb hr hlocks rfl () (by first | (rw [inB_f1 c1]; rfl) | (rw [inB_f2 (n := 256) (by omega) (gt_le c8)]; rfl) | (rw [inB_t (n := 256) (by omega) c1 (ngt_nle c8)]; rfl)) hP hK hD hS dX4_isByte_16
    · skip
      refine lv_iconst (v := 1) hx hb dX4_isByte_11 (by decide) ?_
      refine lv_goto (tgt := 16) hx hb dX4_isByte_12 (by decide) ?_
      subst hQe
      subst hAe
      subst hsz
      exact g_zret hx hb hr hlocks rfl () (by first | (rw [inB_f1 c1]; rfl) | (rw [inB_f2 (n := 256) (by omega) (gt_le c8)]; rfl) | (rw [inB_t (n := 256) (by omega) c1 (ngt_nle c8)]; rfl)) hP hK hD hS dX4_isByte_16
abbrev rX0_isPlace : Room := { frames := 0, cells := 0, slots := 0, locals := 0 }
set_option maxHeartbeats 4000000 in
set_option maxRecDepth 100000 in
theorem c_X0_isPlace (l : Launch) (D : va_G) (cI cJ cG : ClassId) (sz : Nat) (R : va_W) (x y : Int32) : Met l yX0_isPlace wsX0_isPlace rX0_isPlace (gP D (tyl cI cJ cG) [.int x, .int y] (R) sz) (gQi D (tyl cI cJ cG) (R) sz (fun r (_ : Unit) => r = bI (inB x 16 && inB y 16)) (fun _ => R)) 0 0 (va_A (R) sz) := by
  refine gMet (cc := cX0_isPlace) (maxL := 2) (ret := (some .boolean)) (ls0 := [(0, .int x), (1, .int y)]) (by decide) rfl (Nat.le_of_ble_eq_true rfl) rfl ?_
  intro p e s m below meth c hx hb hr hts hown hlocks hml hname A hA hAe hsz Q hQe H locs hP hK hD hS ls hl
  have hown : s.vm.findClass RX0 = some m.cls := hown
  refine lv_iload_n hx hb dX0_isPlace_0 rfl (lv_at hl 0 rfl) ?_
  refine lv_if_lt (tgt := 24) hx hb dX0_isPlace_1 (by decide) (fun c1 => ?_) (fun c1 => ?_)
  · skip
    refine lv_iconst (v := 0) hx hb dX0_isPlace_24 (by decide) ?_
    subst hQe
    subst hAe
    subst hsz
    exact g_zret hx hb hr hlocks rfl () (by first | (rw [inB_f1 c1]; rfl) | (rw [inB_f2 (n := 16) (by omega) c7]; rfl) | (rw [inB_f1 (x := y) c11, Bool.and_false]; rfl) | (rw [inB_f2 (x := y) (n := 16) (by omega) c17, Bool.and_false]; rfl) | (rw [inB_t (n := 16) (by omega) c1 c7, inB_t (n := 16) (by omega) c11 c17]; rfl)) hP hK hD hS dX0_isPlace_25
  · skip
    refine lv_iload_n hx hb dX0_isPlace_4 rfl (lv_at hl 0 rfl) ?_
    refine lv_bipush (v := 16) hx hb dX0_isPlace_5 (by decide) ?_
    refine lv_icmp_ge (tgt := 24) hx hb dX0_isPlace_7 (by decide) (fun c7 => ?_) (fun c7 => ?_)
    · skip
      refine lv_iconst (v := 0) hx hb dX0_isPlace_24 (by decide) ?_
      subst hQe
      subst hAe
      subst hsz
      exact g_zret hx hb hr hlocks rfl () (by first | (rw [inB_f1 c1]; rfl) | (rw [inB_f2 (n := 16) (by omega) c7]; rfl) | (rw [inB_f1 (x := y) c11, Bool.and_false]; rfl) | (rw [inB_f2 (x := y) (n := 16) (by omega) c17, Bool.and_false]; rfl) | (rw [inB_t (n := 16) (by omega) c1 c7, inB_t (n := 16) (by omega) c11 c17]; rfl)) hP hK hD hS dX0_isPlace_25
    · skip
      refine lv_iload_n hx hb dX0_isPlace_10 rfl (lv_at hl 1 rfl) ?_
      refine lv_if_lt (tgt := 24) hx hb dX0_isPlace_11 (by decide) (fun c11 => ?_) (fun c11 => ?_)
      · skip
        refine lv_iconst (v := 0) hx hb dX0_isPlace_24 (by decide) ?_
        subst hQe
        subst hAe
        subst hsz
        exact g_zret hx hb hr hlocks rfl () (by first | (rw [inB_f1 c1]; rfl) | (rw [inB_f2 (n := 16) (by omega) c7]; rfl) | (rw [inB_f1 (x := y) c11, Bool.and_false]; rfl) | (rw [inB_f2 (x := y) (n := 16) (by omega) c17, Bool.and_false]; rfl) | (rw [inB_t (n := 16) (by omega) c1 c7, inB_t (n := 16) (by omega) c11 c17]; rfl)) hP hK hD hS dX0_isPlace_25
      · skip
        refine lv_iload_n hx hb dX0_isPlace_14 rfl (lv_at hl 1 rfl) ?_
        refine lv_bipush (v := 16) hx hb dX0_isPlace_15 (by decide) ?_
        refine lv_icmp_ge (tgt := 24) hx hb dX0_isPlace_17 (by decide) (fun c17 => ?_) (fun c17 => ?_)
        · skip
          refine lv_iconst (v := 0) hx hb dX0_isPlace_24 (by decide) ?_
          subst hQe
          subst hAe
          subst hsz
          exact g_zret hx hb hr hlocks rfl () (by first | (rw [inB_f1 c1]; rfl) | (rw [inB_f2 (n := 16) (by omega) c7]; rfl) | (rw [inB_f1 (x := y) c11, Bool.and_false]; rfl) | (rw [inB_f2 (x := y) (n := 16) (by omega) c17, Bool.and_false]; rfl) | (rw [inB_t (n := 16) (by omega) c1 c7, inB_t (n := 16) (by omega) c11 c17]; rfl)) hP hK hD hS dX0_isPlace_25
        · skip
          refine lv_iconst (v := 1) hx hb dX0_isPlace_20 (by decide) ?_
          refine lv_goto (tgt := 25) hx hb dX0_isPlace_21 (by decide) ?_
          subst hQe
          subst hAe
          subst hsz
          exact g_zret hx hb hr hlocks rfl () (by first | (rw [inB_f1 c1]; rfl) | (rw [inB_f2 (n := 16) (by omega) c7]; rfl) | (rw [inB_f1 (x := y) c11, Bool.and_false]; rfl) | (rw [inB_f2 (x := y) (n := 16) (by omega) c17, Bool.and_false]; rfl) | (rw [inB_t (n := 16) (by omega) c1 c7, inB_t (n := 16) (by omega) c11 c17]; rfl)) hP hK hD hS dX0_isPlace_25
abbrev rX4_isPlace : Room := { frames := 0, cells := 0, slots := 0, locals := 0 }
set_option maxHeartbeats 4000000 in
set_option maxRecDepth 100000 in
theorem c_X4_isPlace (l : Launch) (D : va_G) (cI cJ cG : ClassId) (sz : Nat) (R : va_W) (x y : Int32) : Met l yX4_isPlace wsX4_isPlace rX4_isPlace (gP D (tyl cI cJ cG) [.int x, .int y] (R) sz) (gQi D (tyl cI cJ cG) (R) sz (fun r (_ : Unit) => r = bI (inB x 16 && inB y 16)) (fun _ => R)) 0 0 (va_A (R) sz) := by
  refine gMet (cc := cX4_isPlace) (maxL := 2) (ret := (some .boolean)) (ls0 := [(0, .int x), (1, .int y)]) (by decide) rfl (Nat.le_of_ble_eq_true rfl) rfl ?_
  intro p e s m below meth c hx hb hr hts hown hlocks hml hname A hA hAe hsz Q hQe H locs hP hK hD hS ls hl
  have hown : s.vm.findClass RX4 = some m.cls := hown
  refine lv_iload_n hx hb dX4_isPlace_0 rfl (lv_at hl 0 rfl) ?_
  refine lv_if_lt (tgt := 24) hx hb dX4_isPlace_1 (by decide) (fun c1 => ?_) (fun c1 => ?_)
  · skip
    refine lv_iconst (v := 0) hx hb dX4_isPlace_24 (by decide) ?_
    subst hQe
    subst hAe
    subst hsz
    exact g_zret hx hb hr hlocks rfl () (by first | (rw [inB_f1 c1]; rfl) | (rw [inB_f2 (n := 16) (by omega) c7]; rfl) | (rw [inB_f1 (x := y) c11, Bool.and_false]; rfl) | (rw [inB_f2 (x := y) (n := 16) (by omega) c17, Bool.and_false]; rfl) | (rw [inB_t (n := 16) (by omega) c1 c7, inB_t (n := 16) (by omega) c11 c17]; rfl)) hP hK hD hS dX4_isPlace_25
  · skip
    refine lv_iload_n hx hb dX4_isPlace_4 rfl (lv_at hl 0 rfl) ?_
    refine lv_bipush (v := 16) hx hb dX4_isPlace_5 (by decide) ?_
    refine lv_icmp_ge (tgt := 24) hx hb dX4_isPlace_7 (by decide) (fun c7 => ?_) (fun c7 => ?_)
    · skip
      refine lv_iconst (v := 0) hx hb dX4_isPlace_24 (by decide) ?_
      subst hQe
      subst hAe
      subst hsz
      exact g_zret hx hb hr hlocks rfl () (by first | (rw [inB_f1 c1]; rfl) | (rw [inB_f2 (n := 16) (by omega) c7]; rfl) | (rw [inB_f1 (x := y) c11, Bool.and_false]; rfl) | (rw [inB_f2 (x := y) (n := 16) (by omega) c17, Bool.and_false]; rfl) | (rw [inB_t (n := 16) (by omega) c1 c7, inB_t (n := 16) (by omega) c11 c17]; rfl)) hP hK hD hS dX4_isPlace_25
    · skip
      refine lv_iload_n hx hb dX4_isPlace_10 rfl (lv_at hl 1 rfl) ?_
      refine lv_if_lt (tgt := 24) hx hb dX4_isPlace_11 (by decide) (fun c11 => ?_) (fun c11 => ?_)
      · skip
        refine lv_iconst (v := 0) hx hb dX4_isPlace_24 (by decide) ?_
        subst hQe
        subst hAe
        subst hsz
        exact g_zret hx hb hr hlocks rfl () (by first | (rw [inB_f1 c1]; rfl) | (rw [inB_f2 (n := 16) (by omega) c7]; rfl) | (rw [inB_f1 (x := y) c11, Bool.and_false]; rfl) | (rw [inB_f2 (x := y) (n := 16) (by omega) c17, Bool.and_false]; rfl) | (rw [inB_t (n := 16) (by omega) c1 c7, inB_t (n := 16) (by omega) c11 c17]; rfl)) hP hK hD hS dX4_isPlace_25
      · skip
        refine lv_iload_n hx hb dX4_isPlace_14 rfl (lv_at hl 1 rfl) ?_
        refine lv_bipush (v := 16) hx hb dX4_isPlace_15 (by decide) ?_
        refine lv_icmp_ge (tgt := 24) hx hb dX4_isPlace_17 (by decide) (fun c17 => ?_) (fun c17 => ?_)
        · skip
          refine lv_iconst (v := 0) hx hb dX4_isPlace_24 (by decide) ?_
          subst hQe
          subst hAe
          subst hsz
          exact g_zret hx hb hr hlocks rfl () (by first | (rw [inB_f1 c1]; rfl) | (rw [inB_f2 (n := 16) (by omega) c7]; rfl) | (rw [inB_f1 (x := y) c11, Bool.and_false]; rfl) | (rw [inB_f2 (x := y) (n := 16) (by omega) c17, Bool.and_false]; rfl) | (rw [inB_t (n := 16) (by omega) c1 c7, inB_t (n := 16) (by omega) c11 c17]; rfl)) hP hK hD hS dX4_isPlace_25
        · skip
          refine lv_iconst (v := 1) hx hb dX4_isPlace_20 (by decide) ?_
          refine lv_goto (tgt := 25) hx hb dX4_isPlace_21 (by decide) ?_
          subst hQe
          subst hAe
          subst hsz
          exact g_zret hx hb hr hlocks rfl () (by first | (rw [inB_f1 c1]; rfl) | (rw [inB_f2 (n := 16) (by omega) c7]; rfl) | (rw [inB_f1 (x := y) c11, Bool.and_false]; rfl) | (rw [inB_f2 (x := y) (n := 16) (by omega) c17, Bool.and_false]; rfl) | (rw [inB_t (n := 16) (by omega) c1 c7, inB_t (n := 16) (by omega) c11 c17]; rfl)) hP hK hD hS dX4_isPlace_25
