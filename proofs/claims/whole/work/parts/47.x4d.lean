abbrev rX4_areNear : Room := { frames := 2, cells := 0, slots := 0, locals := 44 }
set_option maxHeartbeats 4000000 in
set_option maxRecDepth 100000 in
theorem c_X4_areNear (l : Launch) (D : va_G) (cI cJ cG : ClassId) (sz : Nat) (R : va_W) (m_ md_ mw_ mv_ mk_ mr_ mo_ mf_ mb_ mx_ mp_ : Nat) (K : Nat) (n : Nat) (dn : Nat → Nat) (wn : Nat → Nat) (vn : Nat → Nat) (tk : Int64) (kn : Nat → Nat) (M : Nat → Nat → Nat) (wo : Nat → Int64) (le : Int64) (kd : Nat → Nat) (px : Nat) (F : Nat → Nat) (fc : Nat) (ft : Nat) (rw : Nat → Nat) (lb : Nat → Nat) (q o : Nat) (hq : q ≤ 256) (ho : o ≤ 256) (hI : MI K n dn wn vn kn M kd px F fc rw lb) : Met l yX4_areNear wsX4_areNear rX4_areNear (gP D (tyl cI cJ cG) [.ref m_, .int (nI q), .int (nI o)] (mwW cI cJ cG R m_ md_ mw_ mv_ mk_ mr_ mo_ mf_ mb_ mx_ mp_ K n dn wn vn tk kn M wo le kd px F fc ft rw lb) sz) (gQi D (tyl cI cJ cG) (mwW cI cJ cG R m_ md_ mw_ mv_ mk_ mr_ mo_ mf_ mb_ mx_ mp_ K n dn wn vn tk kn M wo le kd px F fc ft rw lb) sz (fun r (_ : Unit) => r = bI (nearP lb q o 256)) (fun _ => (mwW cI cJ cG R m_ md_ mw_ mv_ mk_ mr_ mo_ mf_ mb_ mx_ mp_ K n dn wn vn tk kn M wo le kd px F fc ft rw lb))) 0 0 (va_A (mwW cI cJ cG R m_ md_ mw_ mv_ mk_ mr_ mo_ mf_ mb_ mx_ mp_ K n dn wn vn tk kn M wo le kd px F fc ft rw lb) sz) := by
  refine gMet (cc := cX4_areNear) (maxL := 7) (ret := (some .boolean)) (ls0 := [(0, .ref m_), (1, .int (nI q)), (2, .int (nI o))]) (by decide) rfl (Nat.le_of_ble_eq_true rfl) rfl ?_
  intro p e s m below meth c hx hb hr hts hown hlocks hml hname A hA hAe hsz Q hQe H locs hP hK hD hS ls hl
  have hown : s.vm.findClass RX4 = some m.cls := hown
  obtain ⟨⟨hK1, hK4⟩, hn, ⟨hdn, hwn, hvn⟩, ⟨hkn, hM⟩, ⟨hkd, hpx, hlb⟩, ⟨hF, hfc⟩, hrw⟩ := id hI
  refine lv_iconst (v := 0) hx hb dX4_areNear_0 (by decide) ?_
  refine lv_istore_n (lv' := [(3, .int 0), (0, .ref m_), (1, .int (nI q)), (2, .int (nI o))]) hx hb dX4_areNear_1 rfl hl (by decide) rfl (fun ls hl => ?_)
  refine lv_iconst (v := 0) hx hb dX4_areNear_2 (by decide) ?_
  refine lv_istore (lv' := [(4, .int 0), (3, .int 0), (0, .ref m_), (1, .int (nI q)), (2, .int (nI o))]) hx hb dX4_areNear_3 hl (by decide) rfl (fun ls hl => ?_)
  have L_5 : ∀ (n_5 : Nat) (y : Nat) (hy : y ≤ 16), 16 - y < n_5 → ∀ (H : Heap) (locs : List Loc) (ls : Array Slot), va_P D vwCl (mwW cI cJ cG R m_ md_ mw_ mv_ mk_ mr_ mo_ mf_ mb_ mx_ mp_ K n dn wn vn tk kn M wo le kd px F fc ft rw lb) H → va_D A (mwW cI cJ cG R m_ md_ mw_ mv_ mk_ mr_ mo_ mf_ mb_ mx_ mp_ K n dn wn vn tk kn M wo le kd px F fc ft rw lb) → va_S A s.heap H locs → lv_has ls 7 [(4, .int (nI y)), (3, .int (bI (nearP lb q o (16 * y)))), (0, .ref m_), (1, .int (nI q)), (2, .int (nI o))] → W p l e (headSpec wsX4_areNear rX4_areNear).room s m ([.ref m_, .int (nI q), .int (nI o)] : List Value).toArray below meth c H locs 0 0 Q (F0 m 5 ls []) := by
    intro n_5
    induction n_5 with
    | zero => intro y hy hn_; exact absurd hn_ (Nat.not_lt_zero _)
    | succ n_5 ih_5 =>
      intro y hy hn_5 H locs ls hP hD hS hl
      refine lv_iload hx hb dX4_areNear_5 (lv_at hl 0 rfl) ?_
      refine lv_bipush (v := 16) hx hb dX4_areNear_7 (by decide) ?_
      refine lv_icmp_ge (tgt := 98) hx hb dX4_areNear_9 (by decide) (fun c9 => ?_) (fun c9 => ?_)
      · skip
        have hE9 := lp_e (n := 16) c9 hy
        subst hE9
        refine lv_iload_n hx hb dX4_areNear_98 rfl (lv_at hl 1 rfl) ?_
        subst hQe
        subst hAe
        subst hsz
        exact g_zret hx hb hr hlocks (bI_nar _) () rfl hP hK hD hS dX4_areNear_99
      · skip
        have hy8 := lp_l (n := 16) c9 hy
        refine lv_iconst (v := 0) hx hb dX4_areNear_12 (by decide) ?_
        refine lv_istore (lv' := [(5, .int 0), (4, .int (nI y)), (3, .int (bI (nearP lb q o (16 * y)))), (0, .ref m_), (1, .int (nI q)), (2, .int (nI o))]) hx hb dX4_areNear_13 hl (by decide) rfl (fun ls hl => ?_)
        have L_15 : ∀ (n_15 : Nat) (x : Nat) (hx_ : x ≤ 16), 16 - x < n_15 → ∀ (H : Heap) (locs : List Loc) (ls : Array Slot), va_P D vwCl (mwW cI cJ cG R m_ md_ mw_ mv_ mk_ mr_ mo_ mf_ mb_ mx_ mp_ K n dn wn vn tk kn M wo le kd px F fc ft rw lb) H → va_D A (mwW cI cJ cG R m_ md_ mw_ mv_ mk_ mr_ mo_ mf_ mb_ mx_ mp_ K n dn wn vn tk kn M wo le kd px F fc ft rw lb) → va_S A s.heap H locs → lv_has ls 7 [(5, .int (nI x)), (4, .int (nI y)), (3, .int (bI (nearP lb q o (16 * y + x)))), (0, .ref m_), (1, .int (nI q)), (2, .int (nI o))] → W p l e (headSpec wsX4_areNear rX4_areNear).room s m ([.ref m_, .int (nI q), .int (nI o)] : List Value).toArray below meth c H locs 0 0 Q (F0 m 15 ls []) := by
          intro n_15
          induction n_15 with
          | zero => intro x hx_ hn_; exact absurd hn_ (Nat.not_lt_zero _)
          | succ n_15 ih_15 =>
            intro x hx_ hn_15 H locs ls hP hD hS hl
            refine lv_iload hx hb dX4_areNear_15 (lv_at hl 0 rfl) ?_
            refine lv_bipush (v := 16) hx hb dX4_areNear_17 (by decide) ?_
            refine lv_icmp_ge (tgt := 92) hx hb dX4_areNear_19 (by decide) (fun c19 => ?_) (fun c19 => ?_)
            · skip
              have hE19 := lp_e (n := 16) c19 hx_
              subst hE19
              rw [show 16 * y + 16 = 16 * (y + 1) by omega] at hl
              obtain ⟨x92, ex92⟩ : ∃ y_ : Int32, y_ = (nI y) + 1 := ⟨_, rfl⟩
              refine lv_iinc (v := x92) (lv' := [(4, .int x92), (5, .int (nI 16)), (3, .int (bI (nearP lb q o (16 * (y + 1))))), (0, .ref m_), (1, .int (nI q)), (2, .int (nI o))]) hx hb dX4_areNear_92 hl (k := 1) rfl (by rw [ex92]; rfl) (by decide) rfl (fun ls hl => ?_)
              obtain rfl : x92 = nI (y + 1) := by rw [ex92]; exact nI_1 _
              refine lv_goto (tgt := 5) hx hb dX4_areNear_95 (by decide) ?_
              exact ih_5 (y + 1) (by omega) (by omega) H locs ls hP hD hS (lv_sub hl [0, 2, 3, 4, 5] rfl)
            · skip
              have hx8 := lp_l (n := 16) c19 hx_
              refine lv_iconst (v := 0) hx hb dX4_areNear_22 (by decide) ?_
              refine lv_istore (lv' := [(6, .int 0), (5, .int (nI x)), (4, .int (nI y)), (3, .int (bI (nearP lb q o (16 * y + x)))), (0, .ref m_), (1, .int (nI q)), (2, .int (nI o))]) hx hb dX4_areNear_23 hl (by decide) rfl (fun ls hl => ?_)
              have L_25 : ∀ (n_25 : Nat) (d : Nat) (hd_ : d ≤ 9) (hdq : d = 0 ∨ ofB lb (nI x) (nI y) q = true), 9 - d < n_25 → ∀ (H : Heap) (locs : List Loc) (ls : Array Slot), va_P D vwCl (mwW cI cJ cG R m_ md_ mw_ mv_ mk_ mr_ mo_ mf_ mb_ mx_ mp_ K n dn wn vn tk kn M wo le kd px F fc ft rw lb) H → va_D A (mwW cI cJ cG R m_ md_ mw_ mv_ mk_ mr_ mo_ mf_ mb_ mx_ mp_ K n dn wn vn tk kn M wo le kd px F fc ft rw lb) → va_S A s.heap H locs → lv_has ls 7 [(6, .int (nI d)), (5, .int (nI x)), (4, .int (nI y)), (3, .int (bI (nearD lb x y o d (nearP lb q o (16 * y + x))))), (0, .ref m_), (1, .int (nI q)), (2, .int (nI o))] → W p l e (headSpec wsX4_areNear rX4_areNear).room s m ([.ref m_, .int (nI q), .int (nI o)] : List Value).toArray below meth c H locs 0 0 Q (F0 m 25 ls []) := by
                intro n_25
                induction n_25 with
                | zero => intro d hd_ hdq hn_; exact absurd hn_ (Nat.not_lt_zero _)
                | succ n_25 ih_25 =>
                  intro d hd_ hdq hn_25 H locs ls hP hD hS hl
                  refine lv_iload hx hb dX4_areNear_25 (lv_at hl 0 rfl) ?_
                  refine lv_bipush (v := 9) hx hb dX4_areNear_27 (by decide) ?_
                  refine lv_icmp_ge (tgt := 86) hx hb dX4_areNear_29 (by decide) (fun c29 => ?_) (fun c29 => ?_)
                  · skip
                    have hE29 := lp_e (n := 9) c29 hd_
                    subst hE29
                    rw [nr_y hx8 (hdq.resolve_left (by decide))] at hl
                    obtain ⟨x86, ex86⟩ : ∃ y : Int32, y = (nI x) + 1 := ⟨_, rfl⟩
                    refine lv_iinc (v := x86) (lv' := [(5, .int x86), (6, .int (nI 9)), (4, .int (nI y)), (3, .int (bI (nearP lb q o (16 * y + x + 1)))), (0, .ref m_), (1, .int (nI q)), (2, .int (nI o))]) hx hb dX4_areNear_86 hl (k := 1) rfl (by rw [ex86]; rfl) (by decide) rfl (fun ls hl => ?_)
                    obtain rfl : x86 = nI (x + 1) := by rw [ex86]; exact nI_1 _
                    refine lv_goto (tgt := 15) hx hb dX4_areNear_89 (by decide) ?_
                    exact ih_15 (x + 1) (by omega) (by omega) H locs ls hP hD hS (lv_sub hl [0, 2, 3, 4, 5, 6] rfl)
                  · skip
                    have hd8 := lp_l (n := 9) c29 hd_
                    refine lv_aload_n hx hb dX4_areNear_32 rfl (lv_at hl 4 rfl) ?_
                    refine lv_iload hx hb dX4_areNear_33 (lv_at hl 1 rfl) ?_
                    refine lv_iload hx hb dX4_areNear_35 (lv_at hl 2 rfl) ?_
                    refine lv_iload_n hx hb dX4_areNear_37 rfl (lv_at hl 5 rfl) ?_
                    refine gc_Vi (As := [.int (nI x), .int (nI y), .int (nI q)]) (rest := []) (ci := 5) (q0 := 0) ⟨hx, hb, hml, hown, hts⟩ (c_X4_isOf l D cI cJ cG H.size R m_ md_ mw_ mv_ mk_ mr_ mo_ mf_ mb_ mx_ mp_ K n dn wn vn tk kn M wo le kd px F fc ft rw lb (nI x) (nI y) q hq hI) (cwV 3 hts gX4_areNear_X4_isOf rfl rfl rfl (by decide +kernel) ⟨Nat.le_of_ble_eq_true rfl, Nat.le_of_ble_eq_true rfl⟩) rfl rfl rfl hK hP hD hS hA rfl hl.1 rfl (Nat.le_of_ble_eq_true rfl) dX4_areNear_38 ⟨Nat.le_of_ble_eq_true rfl, Nat.le_of_ble_eq_true rfl⟩ (fun r38 u38 H locs h38 hP hD hS => ?_)
                    subst h38
                    have hP : va_P D vwCl (mwW cI cJ cG R m_ md_ mw_ mv_ mk_ mr_ mo_ mf_ mb_ mx_ mp_ K n dn wn vn tk kn M wo le kd px F fc ft rw lb) H := hP
                    have hD : va_D A (mwW cI cJ cG R m_ md_ mw_ mv_ mk_ mr_ mo_ mf_ mb_ mx_ mp_ K n dn wn vn tk kn M wo le kd px F fc ft rw lb) := hD
                    refine lv_if_eq (tgt := 86) hx hb dX4_areNear_41 (by decide) (fun c41 => ?_) (fun c41 => ?_)
                    · skip
                      have hof := bI_0.mp c41
                      have hd0 : 0 = d := (hdq.resolve_right (by rw [hof]; exact Bool.false_ne_true)).symm
                      subst hd0
                      have hl : lv_has ls 7 [(6, .int (nI 0)), (5, .int (nI x)), (4, .int (nI y)), (3, .int (bI (nearP lb q o (16 * y + x + 1)))), (0, .ref m_), (1, .int (nI q)), (2, .int (nI o))] := by rw [← nr_n hx8 hof]; exact hl
                      obtain ⟨x86, ex86⟩ : ∃ y : Int32, y = (nI x) + 1 := ⟨_, rfl⟩
                      refine lv_iinc (v := x86) (lv' := [(5, .int x86), (6, .int (nI 0)), (4, .int (nI y)), (3, .int (bI (nearP lb q o (16 * y + x + 1)))), (0, .ref m_), (1, .int (nI q)), (2, .int (nI o))]) hx hb dX4_areNear_86 hl (k := 1) rfl (by rw [ex86]; rfl) (by decide) rfl (fun ls hl => ?_)
                      obtain rfl : x86 = nI (x + 1) := by rw [ex86]; exact nI_1 _
                      refine lv_goto (tgt := 15) hx hb dX4_areNear_89 (by decide) ?_
                      exact ih_15 (x + 1) (by omega) (by omega) H locs ls hP hD hS (lv_sub hl [0, 2, 3, 4, 5, 6] rfl)
                    · skip
                      have hof := bI_n0.mp c41
                      refine lv_iload_n hx hb dX4_areNear_44 rfl (lv_at hl 3 rfl) ?_
                      refine lv_if_ne (tgt := 74) hx hb dX4_areNear_45 (by decide) (fun c45 => ?_) (fun c45 => ?_)
                      · skip
                        have hnb := bI_n0.mp c45
                        refine lv_iconst (v := 1) hx hb dX4_areNear_74 (by decide) ?_
                        refine lv_goto (tgt := 79) hx hb dX4_areNear_75 (by decide) ?_
                        refine lv_istore_n (lv' := [(3, .int 1), (6, .int (nI d)), (5, .int (nI x)), (4, .int (nI y)), (0, .ref m_), (1, .int (nI q)), (2, .int (nI o))]) hx hb dX4_areNear_79 rfl hl (by decide) rfl (fun ls hl => ?_)
                        have hl : lv_has ls 7 [(3, .int (bI (nearD lb x y o (d + 1) (nearP lb q o (16 * y + x))))), (6, .int (nI d)), (5, .int (nI x)), (4, .int (nI y)), (0, .ref m_), (1, .int (nI q)), (2, .int (nI o))] := by rw [show (nearD lb x y o (d + 1) (nearP lb q o (16 * y + x))) = ((nearD lb x y o d (nearP lb q o (16 * y + x))) || ofB lb (nI x + nI (d % 3) - 1) (nI y + nI (d / 3) - 1) o) from rfl]; first | (rw [hnb, Bool.true_or]; exact hl) | (rw [hnb, hob]; exact hl)
                        obtain ⟨x80, ex80⟩ : ∃ y : Int32, y = (nI d) + 1 := ⟨_, rfl⟩
                        refine lv_iinc (v := x80) (lv' := [(6, .int x80), (3, .int (bI (nearD lb x y o (d + 1) (nearP lb q o (16 * y + x))))), (5, .int (nI x)), (4, .int (nI y)), (0, .ref m_), (1, .int (nI q)), (2, .int (nI o))]) hx hb dX4_areNear_80 hl (k := 1) rfl (by rw [ex80]; rfl) (by decide) rfl (fun ls hl => ?_)
                        obtain rfl : x80 = nI (d + 1) := by rw [ex80]; exact nI_1 _
                        refine lv_goto (tgt := 25) hx hb dX4_areNear_83 (by decide) ?_
                        exact ih_25 (d + 1) (by omega) (Or.inr hof) (by omega) H locs ls hP hD hS (lv_sub hl [0, 2, 3, 1, 4, 5, 6] rfl)
                      · skip
                        have hnb := bI_0.mp c45
                        refine lv_aload_n hx hb dX4_areNear_48 rfl (lv_at hl 4 rfl) ?_
                        refine lv_iload hx hb dX4_areNear_49 (lv_at hl 1 rfl) ?_
                        refine lv_iload hx hb dX4_areNear_51 (lv_at hl 0 rfl) ?_
                        refine lv_iconst (v := 3) hx hb dX4_areNear_53 (by decide) ?_
                        refine lv_irem hx hb dX4_areNear_54 (by decide) ?_
                        refine lv_topi (fun x54 ex54 => ?_)
                        obtain rfl : x54 = nI (d % 3) := by rw [ex54]; exact pk_rem (d := 3) (by omega) (by omega) (by omega)
                        refine lv_iadd hx hb dX4_areNear_55 ?_
                        refine lv_topi (fun x55 ex55 => ?_)
                        obtain rfl : x55 = nI x + nI (d % 3) := by exact ex55
                        refine lv_iconst (v := 1) hx hb dX4_areNear_56 (by decide) ?_
                        refine lv_isub hx hb dX4_areNear_57 ?_
                        refine lv_topi (fun x57 ex57 => ?_)
                        obtain rfl : x57 = nI x + nI (d % 3) - 1 := by exact ex57
                        refine lv_iload hx hb dX4_areNear_58 (lv_at hl 2 rfl) ?_
                        refine lv_iload hx hb dX4_areNear_60 (lv_at hl 0 rfl) ?_
                        refine lv_iconst (v := 3) hx hb dX4_areNear_62 (by decide) ?_
                        refine lv_idiv hx hb dX4_areNear_63 (by decide) ?_
                        refine lv_topi (fun x63 ex63 => ?_)
                        obtain rfl : x63 = nI (d / 3) := by rw [ex63]; exact pk_div (d := 3) (by omega) (by omega) (by omega)
                        refine lv_iadd hx hb dX4_areNear_64 ?_
                        refine lv_topi (fun x64 ex64 => ?_)
                        obtain rfl : x64 = nI y + nI (d / 3) := by exact ex64
                        refine lv_iconst (v := 1) hx hb dX4_areNear_65 (by decide) ?_
                        refine lv_isub hx hb dX4_areNear_66 ?_
                        refine lv_topi (fun x66 ex66 => ?_)
                        obtain rfl : x66 = nI y + nI (d / 3) - 1 := by exact ex66
                        refine lv_iload_n hx hb dX4_areNear_67 rfl (lv_at hl 6 rfl) ?_
                        refine gc_Vi (As := [.int (nI x + nI (d % 3) - 1), .int (nI y + nI (d / 3) - 1), .int (nI o)]) (rest := []) (ci := 5) (q0 := 0) ⟨hx, hb, hml, hown, hts⟩ (c_X4_isOf l D cI cJ cG H.size R m_ md_ mw_ mv_ mk_ mr_ mo_ mf_ mb_ mx_ mp_ K n dn wn vn tk kn M wo le kd px F fc ft rw lb (nI x + nI (d % 3) - 1) (nI y + nI (d / 3) - 1) o ho hI) (cwV 3 hts gX4_areNear_X4_isOf rfl rfl rfl (by decide +kernel) ⟨Nat.le_of_ble_eq_true rfl, Nat.le_of_ble_eq_true rfl⟩) rfl rfl rfl hK hP hD hS hA rfl hl.1 rfl (Nat.le_of_ble_eq_true rfl) dX4_areNear_68 ⟨Nat.le_of_ble_eq_true rfl, Nat.le_of_ble_eq_true rfl⟩ (fun r68 u68 H locs h68 hP hD hS => ?_)
                        subst h68
                        have hP : va_P D vwCl (mwW cI cJ cG R m_ md_ mw_ mv_ mk_ mr_ mo_ mf_ mb_ mx_ mp_ K n dn wn vn tk kn M wo le kd px F fc ft rw lb) H := hP
                        have hD : va_D A (mwW cI cJ cG R m_ md_ mw_ mv_ mk_ mr_ mo_ mf_ mb_ mx_ mp_ K n dn wn vn tk kn M wo le kd px F fc ft rw lb) := hD
                        refine lv_if_eq (tgt := 78) hx hb dX4_areNear_71 (by decide) (fun c71 => ?_) (fun c71 => ?_)
                        · skip
                          have hob := bI_0.mp c71
                          refine lv_iconst (v := 0) hx hb dX4_areNear_78 (by decide) ?_
                          refine lv_istore_n (lv' := [(3, .int 0), (6, .int (nI d)), (5, .int (nI x)), (4, .int (nI y)), (0, .ref m_), (1, .int (nI q)), (2, .int (nI o))]) hx hb dX4_areNear_79 rfl hl (by decide) rfl (fun ls hl => ?_)
                          have hl : lv_has ls 7 [(3, .int (bI (nearD lb x y o (d + 1) (nearP lb q o (16 * y + x))))), (6, .int (nI d)), (5, .int (nI x)), (4, .int (nI y)), (0, .ref m_), (1, .int (nI q)), (2, .int (nI o))] := by rw [show (nearD lb x y o (d + 1) (nearP lb q o (16 * y + x))) = ((nearD lb x y o d (nearP lb q o (16 * y + x))) || ofB lb (nI x + nI (d % 3) - 1) (nI y + nI (d / 3) - 1) o) from rfl]; first | (rw [hnb, Bool.true_or]; exact hl) | (rw [hnb, hob]; exact hl)
                          obtain ⟨x80, ex80⟩ : ∃ y : Int32, y = (nI d) + 1 := ⟨_, rfl⟩
                          refine lv_iinc (v := x80) (lv' := [(6, .int x80), (3, .int (bI (nearD lb x y o (d + 1) (nearP lb q o (16 * y + x))))), (5, .int (nI x)), (4, .int (nI y)), (0, .ref m_), (1, .int (nI q)), (2, .int (nI o))]) hx hb dX4_areNear_80 hl (k := 1) rfl (by rw [ex80]; rfl) (by decide) rfl (fun ls hl => ?_)
                          obtain rfl : x80 = nI (d + 1) := by rw [ex80]; exact nI_1 _
                          refine lv_goto (tgt := 25) hx hb dX4_areNear_83 (by decide) ?_
                          exact ih_25 (d + 1) (by omega) (Or.inr hof) (by omega) H locs ls hP hD hS (lv_sub hl [0, 2, 3, 1, 4, 5, 6] rfl)
                        · skip
                          have hob := bI_n0.mp c71
                          refine lv_iconst (v := 1) hx hb dX4_areNear_74 (by decide) ?_
                          refine lv_goto (tgt := 79) hx hb dX4_areNear_75 (by decide) ?_
                          refine lv_istore_n (lv' := [(3, .int 1), (6, .int (nI d)), (5, .int (nI x)), (4, .int (nI y)), (0, .ref m_), (1, .int (nI q)), (2, .int (nI o))]) hx hb dX4_areNear_79 rfl hl (by decide) rfl (fun ls hl => ?_)
                          have hl : lv_has ls 7 [(3, .int (bI (nearD lb x y o (d + 1) (nearP lb q o (16 * y + x))))), (6, .int (nI d)), (5, .int (nI x)), (4, .int (nI y)), (0, .ref m_), (1, .int (nI q)), (2, .int (nI o))] := by rw [show (nearD lb x y o (d + 1) (nearP lb q o (16 * y + x))) = ((nearD lb x y o d (nearP lb q o (16 * y + x))) || ofB lb (nI x + nI (d % 3) - 1) (nI y + nI (d / 3) - 1) o) from rfl]; first | (rw [hnb, Bool.true_or]; exact hl) | (rw [hnb, hob]; exact hl)
                          obtain ⟨x80, ex80⟩ : ∃ y : Int32, y = (nI d) + 1 := ⟨_, rfl⟩
                          refine lv_iinc (v := x80) (lv' := [(6, .int x80), (3, .int (bI (nearD lb x y o (d + 1) (nearP lb q o (16 * y + x))))), (5, .int (nI x)), (4, .int (nI y)), (0, .ref m_), (1, .int (nI q)), (2, .int (nI o))]) hx hb dX4_areNear_80 hl (k := 1) rfl (by rw [ex80]; rfl) (by decide) rfl (fun ls hl => ?_)
                          obtain rfl : x80 = nI (d + 1) := by rw [ex80]; exact nI_1 _
                          refine lv_goto (tgt := 25) hx hb dX4_areNear_83 (by decide) ?_
                          exact ih_25 (d + 1) (by omega) (Or.inr hof) (by omega) H locs ls hP hD hS (lv_sub hl [0, 2, 3, 1, 4, 5, 6] rfl)
              exact L_25 _ 0 (Nat.zero_le _) (Or.inl rfl) (Nat.lt_succ_self _) H locs ls hP hD hS (lv_sub hl [0, 1, 2, 3, 4, 5, 6] rfl)
        exact L_15 _ 0 (Nat.zero_le _) (Nat.lt_succ_self _) H locs ls hP hD hS (lv_sub hl [0, 1, 2, 3, 4, 5] rfl)
  exact L_5 _ 0 (Nat.zero_le _) (Nat.lt_succ_self _) H locs ls hP hD hS (lv_sub hl [0, 1, 2, 3, 4] rfl)
abbrev rX4_neighbours : Room := { frames := 5, cells := 0, slots := 0, locals := 113 }
set_option maxHeartbeats 4000000 in
set_option maxRecDepth 100000 in
theorem c_X4_neighbours (l : Launch) (D : va_G) (cI cJ cG : ClassId) (sz : Nat) (R : va_W) (m_ md_ mw_ mv_ mk_ mr_ mo_ mf_ mb_ mx_ mp_ : Nat) (K : Nat) (n : Nat) (dn : Nat → Nat) (wn : Nat → Nat) (vn : Nat → Nat) (tk : Int64) (kn : Nat → Nat) (M : Nat → Nat → Nat) (wo : Nat → Int64) (le : Int64) (kd : Nat → Nat) (px : Nat) (F : Nat → Nat) (fc : Nat) (ft : Nat) (rw : Nat → Nat) (lb : Nat → Nat) (x : Int32) (hI : MI K n dn wn vn kn M kd px F fc rw lb) : Met l yX4_neighbours wsX4_neighbours rX4_neighbours (gP D (tyl cI cJ cG) [.ref m_, .int x] (mwW cI cJ cG R m_ md_ mw_ mv_ mk_ mr_ mo_ mf_ mb_ mx_ mp_ K n dn wn vn tk kn M wo le kd px F fc ft rw lb) sz) (gQi D (tyl cI cJ cG) (mwW cI cJ cG R m_ md_ mw_ mv_ mk_ mr_ mo_ mf_ mb_ mx_ mp_ K n dn wn vn tk kn M wo le kd px F fc ft rw lb) sz (fun r (_ : Unit) => r = if inB x (FN kd lb).2 = true then nI (cnt (nbM (FN kd lb).1 x.toNatClampNeg) (FN kd lb).2) else -1) (fun _ => (mwW cI cJ cG R m_ md_ mw_ mv_ mk_ mr_ mo_ mf_ mb_ mx_ mp_ K n dn wn vn tk kn M wo le kd px F fc 0 rw ((FN kd lb).1)))) 0 0 (va_A (mwW cI cJ cG R m_ md_ mw_ mv_ mk_ mr_ mo_ mf_ mb_ mx_ mp_ K n dn wn vn tk kn M wo le kd px F fc ft rw lb) sz) := by
  refine gMet (cc := cX4_neighbours) (maxL := 5) (ret := (some .int)) (ls0 := [(0, .ref m_), (1, .int x)]) (by decide) rfl (Nat.le_of_ble_eq_true rfl) rfl ?_
  intro p e s m below meth c hx hb hr hts hown hlocks hml hname A hA hAe hsz Q hQe H locs hP hK hD hS ls hl
  have hown : s.vm.findClass RX4 = some m.cls := hown
  have in_X4 : ∀ w ∈ wsX40, w ∈ wsX4_neighbours := by decide +kernel
  have f_49 := hts (.fieldLink RX4 49 "SpectrumHeadsModel" "fault" "I") (by decide +kernel)
  obtain ⟨⟨hK1, hK4⟩, hn, ⟨hdn, hwn, hvn⟩, ⟨hkn, hM⟩, ⟨hkd, hpx, hlb⟩, ⟨hF, hfc⟩, hrw⟩ := id hI
  have hfcnt := FN_cnt kd lb
  refine lv_aload_n hx hb dX4_neighbours_0 rfl (lv_at hl 0 rfl) ?_
  refine lv_iconst (v := 0) hx hb dX4_neighbours_1 (by decide) ?_
  refine va_put (D := D) (ci := 5) (v := .int 0) (ty := .int) (C := RX4) (T := TX4) (N := 17) hx hb hts in_X4 tyX4 tyX4_ok nmX4 hown hK hP hD hS 0 rfl rfl 14 (by decide) f_49 (fun _ h9 => h9) rfl (by decide +kernel) rfl rfl (Nat.le_of_ble_eq_true rfl) dX4_neighbours_2 (fun H locs hP hD hS => ?_)
  have hP : va_P D vwCl (mwW cI cJ cG R m_ md_ mw_ mv_ mk_ mr_ mo_ mf_ mb_ mx_ mp_ K n dn wn vn tk kn M wo le kd px F fc 0 rw lb) H := hP
  have hD : va_D A (mwW cI cJ cG R m_ md_ mw_ mv_ mk_ mr_ mo_ mf_ mb_ mx_ mp_ K n dn wn vn tk kn M wo le kd px F fc 0 rw lb) := hD
  refine lv_aload_n hx hb dX4_neighbours_5 rfl (lv_at hl 0 rfl) ?_
  refine gc_Vi (As := []) (rest := []) (ci := 5) (q0 := 0) ⟨hx, hb, hml, hown, hts⟩ (c_X4_find l D cI cJ cG H.size R m_ md_ mw_ mv_ mk_ mr_ mo_ mf_ mb_ mx_ mp_ K n dn wn vn tk kn M wo le kd px F fc 0 rw lb hI) (cwV 0 hts gX4_neighbours_X4_find rfl rfl rfl (by decide +kernel) ⟨Nat.le_of_ble_eq_true rfl, Nat.le_of_ble_eq_true rfl⟩) rfl rfl rfl hK hP hD hS hA rfl hl.1 rfl (Nat.le_of_ble_eq_true rfl) dX4_neighbours_6 ⟨Nat.le_of_ble_eq_true rfl, Nat.le_of_ble_eq_true rfl⟩ (fun r6 u6 H locs h6 hP hD hS => ?_)
  obtain ⟨h6a, h6b⟩ := h6
  subst h6a
  subst h6b
  have hP : va_P D vwCl (mwW cI cJ cG R m_ md_ mw_ mv_ mk_ mr_ mo_ mf_ mb_ mx_ mp_ K n dn wn vn tk kn M wo le kd px F fc 0 rw ((FN kd lb).1)) H := hP
  have hD : va_D A (mwW cI cJ cG R m_ md_ mw_ mv_ mk_ mr_ mo_ mf_ mb_ mx_ mp_ K n dn wn vn tk kn M wo le kd px F fc 0 rw ((FN kd lb).1)) := hD
  refine lv_istore_n (lv' := [(2, .int (nI (FN kd lb).2)), (0, .ref m_), (1, .int x)]) hx hb dX4_neighbours_9 rfl hl (by decide) rfl (fun ls hl => ?_)
  refine lv_iload_n hx hb dX4_neighbours_10 rfl (lv_at hl 2 rfl) ?_
  refine lv_if_lt (tgt := 19) hx hb dX4_neighbours_11 (by decide) (fun c11 => ?_) (fun c11 => ?_)
  · skip
    have hB := inB_f1 (n := (FN kd lb).2) c11
    refine lv_iconst (v := -1) hx hb dX4_neighbours_19 (by decide) ?_
    subst hQe
    subst hAe
    subst hsz
    exact g_iret hx hb hr hlocks () (by rw [hB]; rfl) hP hK hD hS dX4_neighbours_20
  · skip
    refine lv_iload_n hx hb dX4_neighbours_14 rfl (lv_at hl 2 rfl) ?_
    refine lv_iload_n hx hb dX4_neighbours_15 rfl (lv_at hl 0 rfl) ?_
    refine lv_icmp_lt (tgt := 21) hx hb dX4_neighbours_16 (by decide) (fun c16 => ?_) (fun c16 => ?_)
    · skip
      have hB : inB x (FN kd lb).2 = true := inB_t (by omega) c11 (fun h => lt_nle c16 h)
      obtain ⟨a, ha_, rfl⟩ := inB_of hB (by omega)
      refine lv_iconst (v := 0) hx hb dX4_neighbours_21 (by decide) ?_
      refine lv_istore_n (lv' := [(3, .int 0), (2, .int (nI (FN kd lb).2)), (0, .ref m_), (1, .int (nI a))]) hx hb dX4_neighbours_22 rfl hl (by decide) rfl (fun ls hl => ?_)
      refine lv_iconst (v := 0) hx hb dX4_neighbours_23 (by decide) ?_
      refine lv_istore (lv' := [(4, .int 0), (3, .int 0), (2, .int (nI (FN kd lb).2)), (0, .ref m_), (1, .int (nI a))]) hx hb dX4_neighbours_24 hl (by decide) rfl (fun ls hl => ?_)
      have L_26 : ∀ (n_26 : Nat) (i : Nat) (hi : i ≤ (FN kd lb).2), (FN kd lb).2 - i < n_26 → ∀ (H : Heap) (locs : List Loc) (ls : Array Slot), va_P D vwCl (mwW cI cJ cG R m_ md_ mw_ mv_ mk_ mr_ mo_ mf_ mb_ mx_ mp_ K n dn wn vn tk kn M wo le kd px F fc 0 rw ((FN kd lb).1)) H → va_D A (mwW cI cJ cG R m_ md_ mw_ mv_ mk_ mr_ mo_ mf_ mb_ mx_ mp_ K n dn wn vn tk kn M wo le kd px F fc 0 rw ((FN kd lb).1)) → va_S A s.heap H locs → lv_has ls 5 [(4, .int (nI i)), (3, .int (nI (cnt (nbM (FN kd lb).1 a) i))), (2, .int (nI (FN kd lb).2)), (0, .ref m_), (1, .int (nI a))] → W p l e (headSpec wsX4_neighbours rX4_neighbours).room s m ([.ref m_, .int (nI a)] : List Value).toArray below meth c H locs 0 0 Q (F0 m 26 ls []) := by
        intro n_26
        induction n_26 with
        | zero => intro i hi hn_; exact absurd hn_ (Nat.not_lt_zero _)
        | succ n_26 ih_26 =>
          intro i hi hn_26 H locs ls hP hD hS hl
          refine lv_iload hx hb dX4_neighbours_26 (lv_at hl 0 rfl) ?_
          refine lv_iload_n hx hb dX4_neighbours_28 rfl (lv_at hl 2 rfl) ?_
          refine lv_icmp_ge (tgt := 62) hx hb dX4_neighbours_29 (by decide) (fun c29 => ?_) (fun c29 => ?_)
          · skip
            have hE29 := lp_e (n := (FN kd lb).2) c29 hi
            subst hE29
            refine lv_iload_n hx hb dX4_neighbours_62 rfl (lv_at hl 1 rfl) ?_
            subst hQe
            subst hAe
            subst hsz
            exact g_iret hx hb hr hlocks () (by rw [hB, nI_clamp (by omega)]; rfl) hP hK hD hS dX4_neighbours_63
          · skip
            have hi8 := lp_l (n := (FN kd lb).2) c29 hi
            refine lv_iload_n hx hb dX4_neighbours_32 rfl (lv_at hl 1 rfl) ?_
            refine lv_iload hx hb dX4_neighbours_33 (lv_at hl 0 rfl) ?_
            refine lv_iload_n hx hb dX4_neighbours_35 rfl (lv_at hl 4 rfl) ?_
            refine lv_icmp_eq (tgt := 53) hx hb dX4_neighbours_36 (by decide) (fun c36 => ?_) (fun c36 => ?_)
            · skip
              have hno : (nbM (FN kd lb).1 a) i = false := by simp [nbM, (nI_eq (by omega) (by omega)).mp c36]
              refine lv_iconst (v := 0) hx hb dX4_neighbours_53 (by decide) ?_
              refine lv_iadd hx hb dX4_neighbours_54 ?_
              refine lv_topi (fun x54 ex54 => ?_)
              obtain rfl : x54 = nI (cnt (nbM (FN kd lb).1 a) (i + 1)) := by rw [ex54]; first | (rw [cnt_s hyes]; exact nI_1 _) | (rw [← cnt_n hno]; exact nI_add _ 0)
              refine lv_istore_n (lv' := [(3, .int (nI (cnt (nbM (FN kd lb).1 a) (i + 1)))), (4, .int (nI i)), (2, .int (nI (FN kd lb).2)), (0, .ref m_), (1, .int (nI a))]) hx hb dX4_neighbours_55 rfl hl (by decide) rfl (fun ls hl => ?_)
              obtain ⟨x56, ex56⟩ : ∃ y : Int32, y = (nI i) + 1 := ⟨_, rfl⟩
              refine lv_iinc (v := x56) (lv' := [(4, .int x56), (3, .int (nI (cnt (nbM (FN kd lb).1 a) (i + 1)))), (2, .int (nI (FN kd lb).2)), (0, .ref m_), (1, .int (nI a))]) hx hb dX4_neighbours_56 hl (k := 1) rfl (by rw [ex56]; rfl) (by decide) rfl (fun ls hl => ?_)
              obtain rfl : x56 = nI (i + 1) := by rw [ex56]; exact nI_1 _
              refine lv_goto (tgt := 26) hx hb dX4_neighbours_59 (by decide) ?_
              exact ih_26 (i + 1) (by omega) (by omega) H locs ls hP hD hS (lv_sub hl [0, 1, 2, 3, 4] rfl)
            · skip
              have hne : ¬ i = a := fun h => c36 (by rw [h])
              refine lv_aload_n hx hb dX4_neighbours_39 rfl (lv_at hl 3 rfl) ?_
              refine lv_iload_n hx hb dX4_neighbours_40 rfl (lv_at hl 4 rfl) ?_
              refine lv_iload hx hb dX4_neighbours_41 (lv_at hl 0 rfl) ?_
              refine gc_Vi (As := [.int (nI a), .int (nI i)]) (rest := [.int (nI (cnt (nbM (FN kd lb).1 a) i))]) (ci := 5) (q0 := 0) ⟨hx, hb, hml, hown, hts⟩ (c_X4_areNear l D cI cJ cG H.size R m_ md_ mw_ mv_ mk_ mr_ mo_ mf_ mb_ mx_ mp_ K n dn wn vn tk kn M wo le kd px F fc 0 rw ((FN kd lb).1) a i (by omega) (by omega) (MI_lb hI (FN_le hlb))) (cwV 2 hts gX4_neighbours_X4_areNear rfl rfl rfl (by decide +kernel) ⟨Nat.le_of_ble_eq_true rfl, Nat.le_of_ble_eq_true rfl⟩) rfl rfl rfl hK hP hD hS hA rfl hl.1 rfl (Nat.le_of_ble_eq_true rfl) dX4_neighbours_43 ⟨Nat.le_of_ble_eq_true rfl, Nat.le_of_ble_eq_true rfl⟩ (fun r43 u43 H locs h43 hP hD hS => ?_)
              subst h43
              have hP : va_P D vwCl (mwW cI cJ cG R m_ md_ mw_ mv_ mk_ mr_ mo_ mf_ mb_ mx_ mp_ K n dn wn vn tk kn M wo le kd px F fc 0 rw ((FN kd lb).1)) H := hP
              have hD : va_D A (mwW cI cJ cG R m_ md_ mw_ mv_ mk_ mr_ mo_ mf_ mb_ mx_ mp_ K n dn wn vn tk kn M wo le kd px F fc 0 rw ((FN kd lb).1)) := hD
              refine lv_if_eq (tgt := 53) hx hb dX4_neighbours_46 (by decide) (fun c46 => ?_) (fun c46 => ?_)
              · skip
                have hno : (nbM (FN kd lb).1 a) i = false := by simp [nbM, bI_0.mp c46]
                refine lv_iconst (v := 0) hx hb dX4_neighbours_53 (by decide) ?_
                refine lv_iadd hx hb dX4_neighbours_54 ?_
                refine lv_topi (fun x54 ex54 => ?_)
                obtain rfl : x54 = nI (cnt (nbM (FN kd lb).1 a) (i + 1)) := by rw [ex54]; first | (rw [cnt_s hyes]; exact nI_1 _) | (rw [← cnt_n hno]; exact nI_add _ 0)
                refine lv_istore_n (lv' := [(3, .int (nI (cnt (nbM (FN kd lb).1 a) (i + 1)))), (4, .int (nI i)), (2, .int (nI (FN kd lb).2)), (0, .ref m_), (1, .int (nI a))]) hx hb dX4_neighbours_55 rfl hl (by decide) rfl (fun ls hl => ?_)
                obtain ⟨x56, ex56⟩ : ∃ y : Int32, y = (nI i) + 1 := ⟨_, rfl⟩
                refine lv_iinc (v := x56) (lv' := [(4, .int x56), (3, .int (nI (cnt (nbM (FN kd lb).1 a) (i + 1)))), (2, .int (nI (FN kd lb).2)), (0, .ref m_), (1, .int (nI a))]) hx hb dX4_neighbours_56 hl (k := 1) rfl (by rw [ex56]; rfl) (by decide) rfl (fun ls hl => ?_)
                obtain rfl : x56 = nI (i + 1) := by rw [ex56]; exact nI_1 _
                refine lv_goto (tgt := 26) hx hb dX4_neighbours_59 (by decide) ?_
                exact ih_26 (i + 1) (by omega) (by omega) H locs ls hP hD hS (lv_sub hl [0, 1, 2, 3, 4] rfl)
              · skip
                have hyes : (nbM (FN kd lb).1 a) i = true := by simp [nbM, hne, bI_n0.mp c46]
                refine lv_iconst (v := 1) hx hb dX4_neighbours_49 (by decide) ?_
                refine lv_goto (tgt := 54) hx hb dX4_neighbours_50 (by decide) ?_
                refine lv_iadd hx hb dX4_neighbours_54 ?_
                refine lv_topi (fun x54 ex54 => ?_)
                obtain rfl : x54 = nI (cnt (nbM (FN kd lb).1 a) (i + 1)) := by rw [ex54]; first | (rw [cnt_s hyes]; exact nI_1 _) | (rw [← cnt_n hno]; exact nI_add _ 0)
                refine lv_istore_n (lv' := [(3, .int (nI (cnt (nbM (FN kd lb).1 a) (i + 1)))), (4, .int (nI i)), (2, .int (nI (FN kd lb).2)), (0, .ref m_), (1, .int (nI a))]) hx hb dX4_neighbours_55 rfl hl (by decide) rfl (fun ls hl => ?_)
                obtain ⟨x56, ex56⟩ : ∃ y : Int32, y = (nI i) + 1 := ⟨_, rfl⟩
                refine lv_iinc (v := x56) (lv' := [(4, .int x56), (3, .int (nI (cnt (nbM (FN kd lb).1 a) (i + 1)))), (2, .int (nI (FN kd lb).2)), (0, .ref m_), (1, .int (nI a))]) hx hb dX4_neighbours_56 hl (k := 1) rfl (by rw [ex56]; rfl) (by decide) rfl (fun ls hl => ?_)
                obtain rfl : x56 = nI (i + 1) := by rw [ex56]; exact nI_1 _
                refine lv_goto (tgt := 26) hx hb dX4_neighbours_59 (by decide) ?_
                exact ih_26 (i + 1) (by omega) (by omega) H locs ls hP hD hS (lv_sub hl [0, 1, 2, 3, 4] rfl)
      exact L_26 _ 0 (Nat.zero_le _) (Nat.lt_succ_self _) H locs ls hP hD hS (lv_sub hl [0, 1, 2, 3, 4] rfl)
    · skip
      have hB : inB x (FN kd lb).2 = false := inB_f2 (by omega) (nlt_le c16)
      refine lv_iconst (v := -1) hx hb dX4_neighbours_19 (by decide) ?_
      subst hQe
      subst hAe
      subst hsz
      exact g_iret hx hb hr hlocks () (by rw [hB]; rfl) hP hK hD hS dX4_neighbours_20
abbrev rX4_open : Room := { frames := 0, cells := 0, slots := 0, locals := 0 }
set_option maxHeartbeats 4000000 in
set_option maxRecDepth 100000 in
theorem c_X4_open (l : Launch) (D : va_G) (cI cJ cG : ClassId) (sz : Nat) (R : va_W) (m_ md_ mw_ mv_ mk_ mr_ mo_ mf_ mb_ mx_ mp_ : Nat) (K : Nat) (n : Nat) (dn : Nat → Nat) (wn : Nat → Nat) (vn : Nat → Nat) (tk : Int64) (kn : Nat → Nat) (M : Nat → Nat → Nat) (wo : Nat → Int64) (le : Int64) (kd : Nat → Nat) (px : Nat) (F : Nat → Nat) (fc : Nat) (ft : Nat) (rw : Nat → Nat) (lb : Nat → Nat) (hI : MI K n dn wn vn kn M kd px F fc rw lb) : Met l yX4_open wsX4_open rX4_open (gP D (tyl cI cJ cG) [.ref m_] (mwW cI cJ cG R m_ md_ mw_ mv_ mk_ mr_ mo_ mf_ mb_ mx_ mp_ K n dn wn vn tk kn M wo le kd px F fc ft rw lb) sz) (gQi D (tyl cI cJ cG) (mwW cI cJ cG R m_ md_ mw_ mv_ mk_ mr_ mo_ mf_ mb_ mx_ mp_ K n dn wn vn tk kn M wo le kd px F fc ft rw lb) sz (fun r (u : Nat × (Nat → Nat) × (Nat → Nat → Nat)) => (fitP K F fc ∧ r = nI (F 1) ∧ u = (F 1, fu (ldK F) kn (F 1), fu (ldM F M) M (F 1))) ∨ (¬ fitP K F fc ∧ r = -1 ∧ u = (n, kn, M))) (fun u => (mwW cI cJ cG R m_ md_ mw_ mv_ mk_ mr_ mo_ mf_ mb_ mx_ mp_ K u.1 dn wn vn tk u.2.1 u.2.2 wo le kd px F 0 0 rw lb))) 0 0 (va_A (mwW cI cJ cG R m_ md_ mw_ mv_ mk_ mr_ mo_ mf_ mb_ mx_ mp_ K n dn wn vn tk kn M wo le kd px F fc ft rw lb) sz) := by
  refine gMet (cc := cX4_open) (maxL := 6) (ret := (some .int)) (ls0 := [(0, .ref m_)]) (by decide) rfl (Nat.le_of_ble_eq_true rfl) rfl ?_
  intro p e s m below meth c hx hb hr hts hown hlocks hml hname A hA hAe hsz Q hQe H locs hP hK hD hS ls hl
  have hown : s.vm.findClass RX4 = some m.cls := hown
  have in_X4 : ∀ w ∈ wsX40, w ∈ wsX4_open := by decide +kernel
  have f_49 := hts (.fieldLink RX4 49 "SpectrumHeadsModel" "fault" "I") (by decide +kernel)
  have f_129 := hts (.fieldLink RX4 129 "SpectrumHeadsModel" "fedCount" "I") (by decide +kernel)
  have f_36 := hts (.fieldLink RX4 36 "SpectrumHeadsModel" "fed" "[I") (by decide +kernel)
  have f_66 := hts (.fieldLink RX4 66 "SpectrumHeadsModel" "taught" "I") (by decide +kernel)
  have f_19 := hts (.fieldLink RX4 19 "SpectrumHeadsModel" "taughtKind" "[I") (by decide +kernel)
  have f_22 := hts (.fieldLink RX4 22 "SpectrumHeadsModel" "taughtRow" "[I") (by decide +kernel)
  have f_45 := hts (.fieldLink RX4 45 "SpectrumHeadsModel" "kinds" "I") (by decide +kernel)
  obtain ⟨⟨hK1, hK4⟩, hn, ⟨hdn, hwn, hvn⟩, ⟨hkn, hM⟩, ⟨hkd, hpx, hlb⟩, ⟨hF, hfc⟩, hrw⟩ := id hI
  have hF0 := hF 0
  have hF1 := hF 1
  refine lv_aload_n hx hb dX4_open_0 rfl (lv_at hl 0 rfl) ?_
  refine lv_iconst (v := 0) hx hb dX4_open_1 (by decide) ?_
  refine va_put (D := D) (ci := 5) (v := .int 0) (ty := .int) (C := RX4) (T := TX4) (N := 17) hx hb hts in_X4 tyX4 tyX4_ok nmX4 hown hK hP hD hS 0 rfl rfl 14 (by decide) f_49 (fun _ h9 => h9) rfl (by decide +kernel) rfl rfl (Nat.le_of_ble_eq_true rfl) dX4_open_2 (fun H locs hP hD hS => ?_)
  have hP : va_P D vwCl (mwW cI cJ cG R m_ md_ mw_ mv_ mk_ mr_ mo_ mf_ mb_ mx_ mp_ K n dn wn vn tk kn M wo le kd px F fc 0 rw lb) H := hP
  have hD : va_D A (mwW cI cJ cG R m_ md_ mw_ mv_ mk_ mr_ mo_ mf_ mb_ mx_ mp_ K n dn wn vn tk kn M wo le kd px F fc 0 rw lb) := hD
  refine lv_aload_n hx hb dX4_open_5 rfl (lv_at hl 0 rfl) ?_
  refine va_get (D := D) (ci := 5) (v := .int (nI fc)) (C := RX4) (T := TX4) (N := 17) hx hb hts in_X4 hown hK hP 0 rfl rfl 13 (by decide) f_129 (fun _ h9 => h9) rfl dX4_open_6 ?_
  refine lv_istore_n (lv' := [(1, .int (nI fc)), (0, .ref m_)]) hx hb dX4_open_9 rfl hl (by decide) rfl (fun ls hl => ?_)
  refine lv_aload_n hx hb dX4_open_10 rfl (lv_at hl 1 rfl) ?_
  refine lv_iconst (v := 0) hx hb dX4_open_11 (by decide) ?_
  refine va_put (D := D) (ci := 5) (v := .int 0) (ty := .int) (C := RX4) (T := TX4) (N := 17) hx hb hts in_X4 tyX4 tyX4_ok nmX4 hown hK hP hD hS 0 rfl rfl 13 (by decide) f_129 (fun _ h9 => h9) rfl (by decide +kernel) rfl rfl (Nat.le_of_ble_eq_true rfl) dX4_open_12 (fun H locs hP hD hS => ?_)
  have hP : va_P D vwCl (mwW cI cJ cG R m_ md_ mw_ mv_ mk_ mr_ mo_ mf_ mb_ mx_ mp_ K n dn wn vn tk kn M wo le kd px F 0 0 rw lb) H := hP
  have hD : va_D A (mwW cI cJ cG R m_ md_ mw_ mv_ mk_ mr_ mo_ mf_ mb_ mx_ mp_ K n dn wn vn tk kn M wo le kd px F 0 0 rw lb) := hD
  refine lv_iload_n hx hb dX4_open_15 rfl (lv_at hl 0 rfl) ?_
  refine lv_iconst (v := 3) hx hb dX4_open_16 (by decide) ?_
  have J_64 : ∀ (g0 : Bool) (hg : g0 = true ↔ (3 ≤ fc ∧ F 0 = K ∧ F 1 ≤ 40 ∧ fc = 3 + 9 * F 1)) (H : Heap) (locs : List Loc) (ls : Array Slot), va_P D vwCl (mwW cI cJ cG R m_ md_ mw_ mv_ mk_ mr_ mo_ mf_ mb_ mx_ mp_ K n dn wn vn tk kn M wo le kd px F 0 0 rw lb) H → va_D A (mwW cI cJ cG R m_ md_ mw_ mv_ mk_ mr_ mo_ mf_ mb_ mx_ mp_ K n dn wn vn tk kn M wo le kd px F 0 0 rw lb) → va_S A s.heap H locs → lv_has ls 6 [(1, .int (nI fc)), (0, .ref m_)] → W p l e (headSpec wsX4_open rX4_open).room s m ([.ref m_] : List Value).toArray below meth c H locs 0 0 Q (F0 m 64 ls [.int (bI g0)]) := by
    intro g0 hg H locs ls hP hD hS hl
    refine lv_istore_n (lv' := [(2, .int (bI g0)), (1, .int (nI fc)), (0, .ref m_)]) hx hb dX4_open_64 rfl hl (by decide) rfl (fun ls hl => ?_)
    refine lv_iconst (v := 0) hx hb dX4_open_65 (by decide) ?_
    refine lv_istore_n (lv' := [(3, .int 0), (2, .int (bI g0)), (1, .int (nI fc)), (0, .ref m_)]) hx hb dX4_open_66 rfl hl (by decide) rfl (fun ls hl => ?_)
    refine lv_iconst (v := 0) hx hb dX4_open_67 (by decide) ?_
    refine lv_istore (lv' := [(4, .int 0), (3, .int 0), (2, .int (bI g0)), (1, .int (nI fc)), (0, .ref m_)]) hx hb dX4_open_68 hl (by decide) rfl (fun ls hl => ?_)
    have L_70 : ∀ (n_70 : Nat) (k : Nat) (hk : k ≤ fc - 1), fc - 1 - k < n_70 → ∀ (H : Heap) (locs : List Loc) (ls : Array Slot), va_P D vwCl (mwW cI cJ cG R m_ md_ mw_ mv_ mk_ mr_ mo_ mf_ mb_ mx_ mp_ K n dn wn vn tk kn M wo le kd px F 0 0 rw lb) H → va_D A (mwW cI cJ cG R m_ md_ mw_ mv_ mk_ mr_ mo_ mf_ mb_ mx_ mp_ K n dn wn vn tk kn M wo le kd px F 0 0 rw lb) → va_S A s.heap H locs → lv_has ls 6 [(4, .int (nI k)), (3, .int (nI (sumN F k))), (2, .int (bI g0)), (1, .int (nI fc)), (0, .ref m_)] → W p l e (headSpec wsX4_open rX4_open).room s m ([.ref m_] : List Value).toArray below meth c H locs 0 0 Q (F0 m 70 ls []) := by
      intro n_70
      induction n_70 with
      | zero => intro k hk hn_; exact absurd hn_ (Nat.not_lt_zero _)
      | succ n_70 ih_70 =>
        intro k hk hn_70 H locs ls hP hD hS hl
        refine lv_iload hx hb dX4_open_70 (lv_at hl 0 rfl) ?_
        refine lv_iconst (v := 1) hx hb dX4_open_72 (by decide) ?_
        refine lv_iadd hx hb dX4_open_73 ?_
        refine lv_topi (fun x73 ex73 => ?_)
        obtain rfl : x73 = nI (k + 1) := by rw [ex73]; exact nI_1 _
        refine lv_iload_n hx hb dX4_open_74 rfl (lv_at hl 3 rfl) ?_
        refine lv_icmp_ge (tgt := 94) hx hb dX4_open_75 (by decide) (fun c75 => ?_) (fun c75 => ?_)
        · skip
          have hkE : fc - 1 = k := by have := (nI_leI (by omega) (by omega)).mp c75; omega
          subst hkE
          have hsb := sumN_le hF (fc - 1)
          refine lv_iload_n hx hb dX4_open_94 rfl (lv_at hl 2 rfl) ?_
          have J_119 : ∀ (g1 : Bool) (hg1 : g1 = true ↔ ((3 ≤ fc ∧ F 0 = K ∧ F 1 ≤ 40 ∧ fc = 3 + 9 * F 1) ∧ F (fc - 1) = sumN F (fc - 1) % 256)) (H : Heap) (locs : List Loc) (ls : Array Slot), va_P D vwCl (mwW cI cJ cG R m_ md_ mw_ mv_ mk_ mr_ mo_ mf_ mb_ mx_ mp_ K n dn wn vn tk kn M wo le kd px F 0 0 rw lb) H → va_D A (mwW cI cJ cG R m_ md_ mw_ mv_ mk_ mr_ mo_ mf_ mb_ mx_ mp_ K n dn wn vn tk kn M wo le kd px F 0 0 rw lb) → va_S A s.heap H locs → lv_has ls 6 [(1, .int (nI fc)), (0, .ref m_)] → W p l e (headSpec wsX4_open rX4_open).room s m ([.ref m_] : List Value).toArray below meth c H locs 0 0 Q (F0 m 119 ls [.int (bI g1)]) := by
            intro g1 hg1 H locs ls hP hD hS hl
            refine lv_istore_n (lv' := [(2, .int (bI g1)), (1, .int (nI fc)), (0, .ref m_)]) hx hb dX4_open_119 rfl hl (by decide) rfl (fun ls hl => ?_)
            refine lv_iconst (v := 0) hx hb dX4_open_120 (by decide) ?_
            refine lv_istore (lv' := [(4, .int 0), (2, .int (bI g1)), (1, .int (nI fc)), (0, .ref m_)]) hx hb dX4_open_121 hl (by decide) rfl (fun ls hl => ?_)
            have L_123 : ∀ (n_123 : Nat) (t : Nat) (g2 : Bool) (hG1 : g2 = true → ((3 ≤ fc ∧ F 0 = K ∧ F 1 ≤ 40 ∧ fc = 3 + 9 * F 1) ∧ F (fc - 1) = sumN F (fc - 1) % 256) ∧ (∀ j, j < t → F (2 + 9 * j) < K)) (hG2 : g2 = false → ¬ fitP K F fc) (ht : t ≤ F 1), F 1 - t < n_123 → ∀ (H : Heap) (locs : List Loc) (ls : Array Slot), va_P D vwCl (mwW cI cJ cG R m_ md_ mw_ mv_ mk_ mr_ mo_ mf_ mb_ mx_ mp_ K n dn wn vn tk kn M wo le kd px F 0 0 rw lb) H → va_D A (mwW cI cJ cG R m_ md_ mw_ mv_ mk_ mr_ mo_ mf_ mb_ mx_ mp_ K n dn wn vn tk kn M wo le kd px F 0 0 rw lb) → va_S A s.heap H locs → lv_has ls 6 [(4, .int (nI t)), (2, .int (bI g2)), (0, .ref m_)] → W p l e (headSpec wsX4_open rX4_open).room s m ([.ref m_] : List Value).toArray below meth c H locs 0 0 Q (F0 m 123 ls []) := by
              intro n_123
              induction n_123 with
              | zero => intro t g2 hG1 hG2 ht hn_; exact absurd hn_ (Nat.not_lt_zero _)
              | succ n_123 ih_123 =>
                intro t g2 hG1 hG2 ht hn_123 H locs ls hP hD hS hl
                refine lv_iload_n hx hb dX4_open_123 rfl (lv_at hl 1 rfl) ?_
                refine lv_if_eq (tgt := 169) hx hb dX4_open_124 (by decide) (fun c124 => ?_) (fun c124 => ?_)
                · skip
                  have hgf := bI_0.mp c124
                  subst hgf
                  have hno : ¬ fitP K F fc := hG2 rfl
                  refine lv_iload_n hx hb dX4_open_169 rfl (lv_at hl 1 rfl) ?_
                  refine lv_if_ne (tgt := 175) hx hb dX4_open_170 (by decide) (fun c170 => ?_) (fun c170 => ?_)
                  · skip
                    exact absurd bI_f c170
                  · skip
                    refine lv_iconst (v := -1) hx hb dX4_open_173 (by decide) ?_
                    subst hQe
                    subst hAe
                    subst hsz
                    exact g_iret hx hb hr hlocks (n, kn, M) (Or.inr ⟨hno, rfl, rfl⟩) hP hK hD hS dX4_open_174
                · skip
                  have hgt := bI_n0.mp c124
                  subst hgt
                  have hin := hG1 rfl
                  refine lv_iload hx hb dX4_open_127 (lv_at hl 0 rfl) ?_
                  refine lv_aload_n hx hb dX4_open_129 rfl (lv_at hl 2 rfl) ?_
                  refine va_get (D := D) (ci := 5) (v := .ref mb_) (C := RX4) (T := TX4) (N := 17) hx hb hts in_X4 hown hK hP 0 rfl rfl 12 (by decide) f_36 (fun _ h9 => h9) rfl dX4_open_130 ?_
                  refine lv_iconst (v := 1) hx hb dX4_open_133 (by decide) ?_
                  refine va_iald hx hb hK hP (8) 0 rfl rfl (vp_in_nI (n := 1) (by omega) (by omega)) dX4_open_134 ?_
                  refine lv_topi (fun x134 ex134 => ?_)
                  obtain rfl : x134 = nI (F 1) := by exact ex134
                  refine lv_icmp_ge (tgt := 169) hx hb dX4_open_135 (by decide) (fun c135 => ?_) (fun c135 => ?_)
                  · skip
                    have hE : F 1 = t := by have := (nI_leI (by omega) (by omega)).mp c135; omega
                    have hfit : fitP K F fc := fit_of hin.1 (fun j hj => hin.2 j (by omega))
                    refine lv_iload_n hx hb dX4_open_169 rfl (lv_at hl 1 rfl) ?_
                    refine lv_if_ne (tgt := 175) hx hb dX4_open_170 (by decide) (fun c170 => ?_) (fun c170 => ?_)
                    · skip
                      have hf40 := hfit.2.2.1
                      refine lv_aload_n hx hb dX4_open_175 rfl (lv_at hl 2 rfl) ?_
                      refine lv_aload_n hx hb dX4_open_176 rfl (lv_at hl 2 rfl) ?_
                      refine va_get (D := D) (ci := 5) (v := .ref mb_) (C := RX4) (T := TX4) (N := 17) hx hb hts in_X4 hown hK hP 0 rfl rfl 12 (by decide) f_36 (fun _ h9 => h9) rfl dX4_open_177 ?_
                      refine lv_iconst (v := 1) hx hb dX4_open_180 (by decide) ?_
                      refine va_iald hx hb hK hP (8) 0 rfl rfl (vp_in_nI (n := 1) (by omega) (by omega)) dX4_open_181 ?_
                      refine lv_topi (fun x181 ex181 => ?_)
                      obtain rfl : x181 = nI (F 1) := by exact ex181
                      refine va_put (D := D) (ci := 5) (v := .int (nI (F 1))) (ty := .int) (C := RX4) (T := TX4) (N := 17) hx hb hts in_X4 tyX4 tyX4_ok nmX4 hown hK hP hD hS 0 rfl rfl 5 (by decide) f_66 (fun _ h9 => h9) rfl (by decide +kernel) rfl rfl (Nat.le_of_ble_eq_true rfl) dX4_open_182 (fun H locs hP hD hS => ?_)
                      have hP : va_P D vwCl (mwW cI cJ cG R m_ md_ mw_ mv_ mk_ mr_ mo_ mf_ mb_ mx_ mp_ K (F 1) dn wn vn tk kn M wo le kd px F 0 0 rw lb) H := hP
                      have hD : va_D A (mwW cI cJ cG R m_ md_ mw_ mv_ mk_ mr_ mo_ mf_ mb_ mx_ mp_ K (F 1) dn wn vn tk kn M wo le kd px F 0 0 rw lb) := hD
                      have hP : va_P D vwCl (mwW cI cJ cG R m_ md_ mw_ mv_ mk_ mr_ mo_ mf_ mb_ mx_ mp_ K (F 1) dn wn vn tk (fu (ldK F) kn 0) (fu (ldM F M) M 0) wo le kd px F 0 0 rw lb) H := by rw [fu_0 (g := ldM F M), fu_0 (g := ldK F)]; exact hP
                      have hD : va_D A (mwW cI cJ cG R m_ md_ mw_ mv_ mk_ mr_ mo_ mf_ mb_ mx_ mp_ K (F 1) dn wn vn tk (fu (ldK F) kn 0) (fu (ldM F M) M 0) wo le kd px F 0 0 rw lb) := by rw [fu_0 (g := ldM F M), fu_0 (g := ldK F)]; exact hD
                      refine lv_iconst (v := 0) hx hb dX4_open_185 (by decide) ?_
                      refine lv_istore (lv' := [(4, .int 0), (2, .int (bI true)), (0, .ref m_)]) hx hb dX4_open_186 hl (by decide) rfl (fun ls hl => ?_)
                      have L_188 : ∀ (n_188 : Nat) (t : Nat) (ht : t ≤ F 1), F 1 - t < n_188 → ∀ (H : Heap) (locs : List Loc) (ls : Array Slot), va_P D vwCl (mwW cI cJ cG R m_ md_ mw_ mv_ mk_ mr_ mo_ mf_ mb_ mx_ mp_ K (F 1) dn wn vn tk (fu (ldK F) kn t) (fu (ldM F M) M t) wo le kd px F 0 0 rw lb) H → va_D A (mwW cI cJ cG R m_ md_ mw_ mv_ mk_ mr_ mo_ mf_ mb_ mx_ mp_ K (F 1) dn wn vn tk (fu (ldK F) kn t) (fu (ldM F M) M t) wo le kd px F 0 0 rw lb) → va_S A s.heap H locs → lv_has ls 6 [(4, .int (nI t)), (0, .ref m_)] → W p l e (headSpec wsX4_open rX4_open).room s m ([.ref m_] : List Value).toArray below meth c H locs 0 0 Q (F0 m 188 ls []) := by
                        intro n_188
                        induction n_188 with
                        | zero => intro t ht hn_; exact absurd hn_ (Nat.not_lt_zero _)
                        | succ n_188 ih_188 =>
                          intro t ht hn_188 H locs ls hP hD hS hl
                          refine lv_iload hx hb dX4_open_188 (lv_at hl 0 rfl) ?_
                          refine lv_aload_n hx hb dX4_open_190 rfl (lv_at hl 1 rfl) ?_
                          refine va_get (D := D) (ci := 5) (v := .int (nI (F 1))) (C := RX4) (T := TX4) (N := 17) hx hb hts in_X4 hown hK hP 0 rfl rfl 5 (by decide) f_66 (fun _ h9 => h9) rfl dX4_open_191 ?_
                          refine lv_icmp_ge (tgt := 266) hx hb dX4_open_194 (by decide) (fun c194 => ?_) (fun c194 => ?_)
                          · skip
                            have hE194 := lp_e (n := (F 1)) c194 ht
                            subst hE194
                            refine lv_aload_n hx hb dX4_open_266 rfl (lv_at hl 1 rfl) ?_
                            refine va_get (D := D) (ci := 5) (v := .int (nI (F 1))) (C := RX4) (T := TX4) (N := 17) hx hb hts in_X4 hown hK hP 0 rfl rfl 5 (by decide) f_66 (fun _ h9 => h9) rfl dX4_open_267 ?_
                            subst hQe
                            subst hAe
                            subst hsz
                            exact g_iret hx hb hr hlocks (F 1, fu (ldK F) kn (F 1), fu (ldM F M) M (F 1)) (Or.inl ⟨hfit, rfl, rfl⟩) hP hK hD hS dX4_open_270
                          · skip
                            have ht8 := lp_l (n := (F 1)) c194 ht
                            refine lv_aload_n hx hb dX4_open_197 rfl (lv_at hl 1 rfl) ?_
                            refine va_get (D := D) (ci := 5) (v := .ref mk_) (C := RX4) (T := TX4) (N := 17) hx hb hts in_X4 hown hK hP 0 rfl rfl 6 (by decide) f_19 (fun _ h9 => h9) rfl dX4_open_198 ?_
                            refine lv_iload hx hb dX4_open_201 (lv_at hl 0 rfl) ?_
                            refine lv_aload_n hx hb dX4_open_203 rfl (lv_at hl 1 rfl) ?_
                            refine va_get (D := D) (ci := 5) (v := .ref mb_) (C := RX4) (T := TX4) (N := 17) hx hb hts in_X4 hown hK hP 0 rfl rfl 12 (by decide) f_36 (fun _ h9 => h9) rfl dX4_open_204 ?_
                            refine lv_iconst (v := 2) hx hb dX4_open_207 (by decide) ?_
                            refine lv_bipush (v := 9) hx hb dX4_open_208 (by decide) ?_
                            refine lv_iload hx hb dX4_open_210 (lv_at hl 0 rfl) ?_
                            refine lv_imul hx hb dX4_open_212 ?_
                            refine lv_topi (fun x212 ex212 => ?_)
                            obtain rfl : x212 = nI (9 * t) := by rw [ex212]; exact pk_mul 9 _
                            refine lv_iadd hx hb dX4_open_213 ?_
                            refine lv_topi (fun x213 ex213 => ?_)
                            obtain rfl : x213 = nI (2 + 9 * t) := by rw [ex213]; exact nI_add 2 _
                            refine va_iald hx hb hK hP (8) 0 rfl rfl (by first | exact vp_in_nI (by omega) (by omega) | assumption) dX4_open_214 ?_
                            refine lv_topi (fun x214 ex214 => ?_)
                            rw [nI_clamp (by omega)] at ex214
                            obtain rfl : x214 = nI (F (2 + 9 * t)) := by exact ex214
                            refine va_iast hx hb hK hP hD hS 4 0 rfl rfl (by first | exact vp_in_nI (by omega) (by omega) | assumption) dX4_open_215 (fun H locs hP hD hS => ?_)
                            rw [nI_clamp (by omega)] at hP hD
                            have hP : va_P D vwCl ((m_, .inr (5, [.int (nI K), .ref md_, .ref mw_, .ref mv_, .long tk, .int (nI (F 1)), .ref mk_, .ref mr_, .long le, .ref mo_, .int (nI px), .ref mf_, .ref mb_, .int (nI 0), .int (nI 0), .ref mx_, .ref mp_])) :: (md_, .inl (cI, 8, .inl (nf dn))) :: (mw_, .inl (cI, 8, .inl (nf wn))) :: (mv_, .inl (cI, 8, .inl (nf vn))) :: (mk_, .inl (cI, 40, .inl (upd (nf (fu (ldK F) kn t)) t (nI (F (2 + 9 * t)))))) :: (mr_, .inl (cI, 320, .inl (nf (fM (fu (ldM F M) M t))))) :: (mo_, .inl (cJ, 4, .inr (.inl wo))) :: (mf_, .inl (cI, 256, .inl (nf kd))) :: (mb_, .inl (cI, 400, .inl (nf F))) :: (mx_, .inl (cI, 8, .inl (nf rw))) :: (mp_, .inl (cI, 256, .inl (l1 lb))) :: R) H := hP
                            have hD : va_D A ((m_, .inr (5, [.int (nI K), .ref md_, .ref mw_, .ref mv_, .long tk, .int (nI (F 1)), .ref mk_, .ref mr_, .long le, .ref mo_, .int (nI px), .ref mf_, .ref mb_, .int (nI 0), .int (nI 0), .ref mx_, .ref mp_])) :: (md_, .inl (cI, 8, .inl (nf dn))) :: (mw_, .inl (cI, 8, .inl (nf wn))) :: (mv_, .inl (cI, 8, .inl (nf vn))) :: (mk_, .inl (cI, 40, .inl (upd (nf (fu (ldK F) kn t)) t (nI (F (2 + 9 * t)))))) :: (mr_, .inl (cI, 320, .inl (nf (fM (fu (ldM F M) M t))))) :: (mo_, .inl (cJ, 4, .inr (.inl wo))) :: (mf_, .inl (cI, 256, .inl (nf kd))) :: (mb_, .inl (cI, 400, .inl (nf F))) :: (mx_, .inl (cI, 8, .inl (nf rw))) :: (mp_, .inl (cI, 256, .inl (l1 lb))) :: R) := hD
                            have hW_ : upd (nf (fu (ldK F) kn t)) t (nI (F (2 + 9 * t))) = nf (fu (ldK F) kn (t + 1)) := by rw [nf_upd]; exact congrArg nf (fu_s (g := ldK F))
                            rw [hW_] at hP hD
                            have hP : va_P D vwCl (mwW cI cJ cG R m_ md_ mw_ mv_ mk_ mr_ mo_ mf_ mb_ mx_ mp_ K (F 1) dn wn vn tk (fu (ldK F) kn (t + 1)) (fu (ldM F M) M t) wo le kd px F 0 0 rw lb) H := hP
                            have hD : va_D A (mwW cI cJ cG R m_ md_ mw_ mv_ mk_ mr_ mo_ mf_ mb_ mx_ mp_ K (F 1) dn wn vn tk (fu (ldK F) kn (t + 1)) (fu (ldM F M) M t) wo le kd px F 0 0 rw lb) := hD
                            have hP : va_P D vwCl (mwW cI cJ cG R m_ md_ mw_ mv_ mk_ mr_ mo_ mf_ mb_ mx_ mp_ K (F 1) dn wn vn tk (fu (ldK F) kn (t + 1)) (un (fu (ldM F M) M t) t (fu (fun k => F (2 + 9 * t + 1 + k)) (M t) 0)) wo le kd px F 0 0 rw lb) H := by rw [ld_0]; exact hP
                            have hD : va_D A (mwW cI cJ cG R m_ md_ mw_ mv_ mk_ mr_ mo_ mf_ mb_ mx_ mp_ K (F 1) dn wn vn tk (fu (ldK F) kn (t + 1)) (un (fu (ldM F M) M t) t (fu (fun k => F (2 + 9 * t + 1 + k)) (M t) 0)) wo le kd px F 0 0 rw lb) := by rw [ld_0]; exact hD
                            refine lv_iconst (v := 0) hx hb dX4_open_216 (by decide) ?_
                            refine lv_istore (lv' := [(5, .int 0), (4, .int (nI t)), (0, .ref m_)]) hx hb dX4_open_217 hl (by decide) rfl (fun ls hl => ?_)
                            have L_219 : ∀ (n_219 : Nat) (k : Nat) (hk : k ≤ 8), 8 - k < n_219 → ∀ (H : Heap) (locs : List Loc) (ls : Array Slot), va_P D vwCl (mwW cI cJ cG R m_ md_ mw_ mv_ mk_ mr_ mo_ mf_ mb_ mx_ mp_ K (F 1) dn wn vn tk (fu (ldK F) kn (t + 1)) (un (fu (ldM F M) M t) t (fu (fun k => F (2 + 9 * t + 1 + k)) (M t) k)) wo le kd px F 0 0 rw lb) H → va_D A (mwW cI cJ cG R m_ md_ mw_ mv_ mk_ mr_ mo_ mf_ mb_ mx_ mp_ K (F 1) dn wn vn tk (fu (ldK F) kn (t + 1)) (un (fu (ldM F M) M t) t (fu (fun k => F (2 + 9 * t + 1 + k)) (M t) k)) wo le kd px F 0 0 rw lb) → va_S A s.heap H locs → lv_has ls 6 [(5, .int (nI k)), (4, .int (nI t)), (0, .ref m_)] → W p l e (headSpec wsX4_open rX4_open).room s m ([.ref m_] : List Value).toArray below meth c H locs 0 0 Q (F0 m 219 ls []) := by
                              intro n_219
                              induction n_219 with
                              | zero => intro k hk hn_; exact absurd hn_ (Nat.not_lt_zero _)
                              | succ n_219 ih_219 =>
                                intro k hk hn_219 H locs ls hP hD hS hl
                                refine lv_iload hx hb dX4_open_219 (lv_at hl 0 rfl) ?_
                                refine lv_bipush (v := 8) hx hb dX4_open_221 (by decide) ?_
                                refine lv_icmp_ge (tgt := 260) hx hb dX4_open_223 (by decide) (fun c223 => ?_) (fun c223 => ?_)
                                · skip
                                  have hE223 := lp_e (n := 8) c223 hk
                                  subst hE223
                                  have hP : va_P D vwCl (mwW cI cJ cG R m_ md_ mw_ mv_ mk_ mr_ mo_ mf_ mb_ mx_ mp_ K (F 1) dn wn vn tk (fu (ldK F) kn (t + 1)) (fu (ldM F M) M (t + 1)) wo le kd px F 0 0 rw lb) H := by rw [← ld_8]; exact hP
                                  have hD : va_D A (mwW cI cJ cG R m_ md_ mw_ mv_ mk_ mr_ mo_ mf_ mb_ mx_ mp_ K (F 1) dn wn vn tk (fu (ldK F) kn (t + 1)) (fu (ldM F M) M (t + 1)) wo le kd px F 0 0 rw lb) := by rw [← ld_8]; exact hD
                                  obtain ⟨x260, ex260⟩ : ∃ y : Int32, y = (nI t) + 1 := ⟨_, rfl⟩
                                  refine lv_iinc (v := x260) (lv' := [(4, .int x260), (5, .int (nI 8)), (0, .ref m_)]) hx hb dX4_open_260 hl (k := 1) rfl (by rw [ex260]; rfl) (by decide) rfl (fun ls hl => ?_)
                                  obtain rfl : x260 = nI (t + 1) := by rw [ex260]; exact nI_1 _
                                  refine lv_goto (tgt := 188) hx hb dX4_open_263 (by decide) ?_
                                  exact ih_188 (t + 1) (by omega) (by omega) H locs ls hP hD hS (lv_sub hl [0, 2] rfl)
                                · skip
                                  have hk8 := lp_l (n := 8) c223 hk
                                  refine lv_aload_n hx hb dX4_open_226 rfl (lv_at hl 2 rfl) ?_
                                  refine va_get (D := D) (ci := 5) (v := .ref mr_) (C := RX4) (T := TX4) (N := 17) hx hb hts in_X4 hown hK hP 0 rfl rfl 7 (by decide) f_22 (fun _ h9 => h9) rfl dX4_open_227 ?_
                                  refine lv_bipush (v := 8) hx hb dX4_open_230 (by decide) ?_
                                  refine lv_iload hx hb dX4_open_232 (lv_at hl 1 rfl) ?_
                                  refine lv_imul hx hb dX4_open_234 ?_
                                  refine lv_topi (fun x234 ex234 => ?_)
                                  obtain rfl : x234 = nI (8 * t) := by rw [ex234]; exact pk_mul 8 _
                                  refine lv_iload hx hb dX4_open_235 (lv_at hl 0 rfl) ?_
                                  refine lv_iadd hx hb dX4_open_237 ?_
                                  refine lv_topi (fun x237 ex237 => ?_)
                                  obtain rfl : x237 = nI (8 * t + k) := by rw [ex237]; exact nI_add _ _
                                  refine lv_aload_n hx hb dX4_open_238 rfl (lv_at hl 2 rfl) ?_
                                  refine va_get (D := D) (ci := 5) (v := .ref mb_) (C := RX4) (T := TX4) (N := 17) hx hb hts in_X4 hown hK hP 0 rfl rfl 12 (by decide) f_36 (fun _ h9 => h9) rfl dX4_open_239 ?_
                                  refine lv_iconst (v := 3) hx hb dX4_open_242 (by decide) ?_
                                  refine lv_bipush (v := 9) hx hb dX4_open_243 (by decide) ?_
                                  refine lv_iload hx hb dX4_open_245 (lv_at hl 1 rfl) ?_
                                  refine lv_imul hx hb dX4_open_247 ?_
                                  refine lv_topi (fun x247 ex247 => ?_)
                                  obtain rfl : x247 = nI (9 * t) := by rw [ex247]; exact pk_mul 9 _
                                  refine lv_iadd hx hb dX4_open_248 ?_
                                  refine lv_topi (fun x248 ex248 => ?_)
                                  obtain rfl : x248 = nI (3 + 9 * t) := by rw [ex248]; exact nI_add 3 _
                                  refine lv_iload hx hb dX4_open_249 (lv_at hl 0 rfl) ?_
                                  refine lv_iadd hx hb dX4_open_251 ?_
                                  refine lv_topi (fun x251 ex251 => ?_)
                                  obtain rfl : x251 = nI (2 + 9 * t + 1 + k) := by rw [ex251, nI_add]; exact congrArg nI (by omega)
                                  refine va_iald hx hb hK hP (8) 0 rfl rfl (by first | exact vp_in_nI (by omega) (by omega) | assumption) dX4_open_252 ?_
                                  refine lv_topi (fun x252 ex252 => ?_)
                                  rw [nI_clamp (by omega)] at ex252
                                  obtain rfl : x252 = nI (F (2 + 9 * t + 1 + k)) := by exact ex252
                                  refine va_iast hx hb hK hP hD hS 5 0 rfl rfl (by first | exact vp_in_nI (by omega) (by omega) | assumption) dX4_open_253 (fun H locs hP hD hS => ?_)
                                  rw [nI_clamp (by omega)] at hP hD
                                  have hP : va_P D vwCl ((m_, .inr (5, [.int (nI K), .ref md_, .ref mw_, .ref mv_, .long tk, .int (nI (F 1)), .ref mk_, .ref mr_, .long le, .ref mo_, .int (nI px), .ref mf_, .ref mb_, .int (nI 0), .int (nI 0), .ref mx_, .ref mp_])) :: (md_, .inl (cI, 8, .inl (nf dn))) :: (mw_, .inl (cI, 8, .inl (nf wn))) :: (mv_, .inl (cI, 8, .inl (nf vn))) :: (mk_, .inl (cI, 40, .inl (nf (fu (ldK F) kn (t + 1))))) :: (mr_, .inl (cI, 320, .inl (upd (nf (fM (un (fu (ldM F M) M t) t (fu (fun k => F (2 + 9 * t + 1 + k)) (M t) k)))) (8 * t + k) (nI (F (2 + 9 * t + 1 + k)))))) :: (mo_, .inl (cJ, 4, .inr (.inl wo))) :: (mf_, .inl (cI, 256, .inl (nf kd))) :: (mb_, .inl (cI, 400, .inl (nf F))) :: (mx_, .inl (cI, 8, .inl (nf rw))) :: (mp_, .inl (cI, 256, .inl (l1 lb))) :: R) H := hP
                                  have hD : va_D A ((m_, .inr (5, [.int (nI K), .ref md_, .ref mw_, .ref mv_, .long tk, .int (nI (F 1)), .ref mk_, .ref mr_, .long le, .ref mo_, .int (nI px), .ref mf_, .ref mb_, .int (nI 0), .int (nI 0), .ref mx_, .ref mp_])) :: (md_, .inl (cI, 8, .inl (nf dn))) :: (mw_, .inl (cI, 8, .inl (nf wn))) :: (mv_, .inl (cI, 8, .inl (nf vn))) :: (mk_, .inl (cI, 40, .inl (nf (fu (ldK F) kn (t + 1))))) :: (mr_, .inl (cI, 320, .inl (upd (nf (fM (un (fu (ldM F M) M t) t (fu (fun k => F (2 + 9 * t + 1 + k)) (M t) k)))) (8 * t + k) (nI (F (2 + 9 * t + 1 + k)))))) :: (mo_, .inl (cJ, 4, .inr (.inl wo))) :: (mf_, .inl (cI, 256, .inl (nf kd))) :: (mb_, .inl (cI, 400, .inl (nf F))) :: (mx_, .inl (cI, 8, .inl (nf rw))) :: (mp_, .inl (cI, 256, .inl (l1 lb))) :: R) := hD
                                  have hW_ : upd (nf (fM (un (fu (ldM F M) M t) t (fu (fun k => F (2 + 9 * t + 1 + k)) (M t) k)))) (8 * t + k) (nI (F (2 + 9 * t + 1 + k))) = nf (fM (un (fu (ldM F M) M t) t (fu (fun k => F (2 + 9 * t + 1 + k)) (M t) (k + 1)))) := by rw [nf_upd]; exact congrArg nf (fM_st2 (g := fun k => F (2 + 9 * t + 1 + k)) hk8)
                                  rw [hW_] at hP hD
                                  have hP : va_P D vwCl (mwW cI cJ cG R m_ md_ mw_ mv_ mk_ mr_ mo_ mf_ mb_ mx_ mp_ K (F 1) dn wn vn tk (fu (ldK F) kn (t + 1)) (un (fu (ldM F M) M t) t (fu (fun k => F (2 + 9 * t + 1 + k)) (M t) (k + 1))) wo le kd px F 0 0 rw lb) H := hP
                                  have hD : va_D A (mwW cI cJ cG R m_ md_ mw_ mv_ mk_ mr_ mo_ mf_ mb_ mx_ mp_ K (F 1) dn wn vn tk (fu (ldK F) kn (t + 1)) (un (fu (ldM F M) M t) t (fu (fun k => F (2 + 9 * t + 1 + k)) (M t) (k + 1))) wo le kd px F 0 0 rw lb) := hD
                                  obtain ⟨x254, ex254⟩ : ∃ y : Int32, y = (nI k) + 1 := ⟨_, rfl⟩
                                  refine lv_iinc (v := x254) (lv' := [(5, .int x254), (4, .int (nI t)), (0, .ref m_)]) hx hb dX4_open_254 hl (k := 0) rfl (by rw [ex254]; rfl) (by decide) rfl (fun ls hl => ?_)
                                  obtain rfl : x254 = nI (k + 1) := by rw [ex254]; exact nI_1 _
                                  refine lv_goto (tgt := 219) hx hb dX4_open_257 (by decide) ?_
                                  exact ih_219 (k + 1) (by omega) (by omega) H locs ls hP hD hS (lv_sub hl [0, 1, 2] rfl)
                            exact L_219 _ 0 (Nat.zero_le _) (Nat.lt_succ_self _) H locs ls hP hD hS (lv_sub hl [0, 1, 2] rfl)
                      exact L_188 _ 0 (Nat.zero_le _) (Nat.lt_succ_self _) H locs ls hP hD hS (lv_sub hl [0, 2] rfl)
                    · skip
                      exact absurd c170 (by decide)
                  · skip
                    have ht8 : t < F 1 := by have := mt (nI_leI (a := F 1) (b := t) (by omega) (by omega)).mpr c135; omega
                    have hFt := hF (2 + 9 * t)
                    have hf40 := hin.1.1.2.2.1
                    refine lv_aload_n hx hb dX4_open_138 rfl (lv_at hl 2 rfl) ?_
                    refine va_get (D := D) (ci := 5) (v := .ref mb_) (C := RX4) (T := TX4) (N := 17) hx hb hts in_X4 hown hK hP 0 rfl rfl 12 (by decide) f_36 (fun _ h9 => h9) rfl dX4_open_139 ?_
                    refine lv_iconst (v := 2) hx hb dX4_open_142 (by decide) ?_
                    refine lv_bipush (v := 9) hx hb dX4_open_143 (by decide) ?_
                    refine lv_iload hx hb dX4_open_145 (lv_at hl 0 rfl) ?_
                    refine lv_imul hx hb dX4_open_147 ?_
                    refine lv_topi (fun x147 ex147 => ?_)
                    obtain rfl : x147 = nI (9 * t) := by rw [ex147]; exact pk_mul 9 _
                    refine lv_iadd hx hb dX4_open_148 ?_
                    refine lv_topi (fun x148 ex148 => ?_)
                    obtain rfl : x148 = nI (2 + 9 * t) := by rw [ex148]; exact nI_add 2 _
                    refine va_iald hx hb hK hP (8) 0 rfl rfl (by first | exact vp_in_nI (by omega) (by omega) | assumption) dX4_open_149 ?_
                    refine lv_topi (fun x149 ex149 => ?_)
                    rw [nI_clamp (by omega)] at ex149
                    obtain rfl : x149 = nI (F (2 + 9 * t)) := by exact ex149
                    refine lv_aload_n hx hb dX4_open_150 rfl (lv_at hl 2 rfl) ?_
                    refine va_get (D := D) (ci := 5) (v := .int (nI K)) (C := RX4) (T := TX4) (N := 17) hx hb hts in_X4 hown hK hP 0 rfl rfl 0 (by decide) f_45 (fun _ h9 => h9) rfl dX4_open_151 ?_
                    refine lv_icmp_ge (tgt := 161) hx hb dX4_open_154 (by decide) (fun c154 => ?_) (fun c154 => ?_)
                    · skip
                      have hkk : ¬ F (2 + 9 * t) < K := by have := (nI_leI (by omega) (by omega)).mp c154; omega
                      refine lv_iconst (v := 0) hx hb dX4_open_161 (by decide) ?_
                      refine lv_istore_n (lv' := [(2, .int 0), (4, .int (nI t)), (0, .ref m_)]) hx hb dX4_open_162 rfl hl (by decide) rfl (fun ls hl => ?_)
                      obtain ⟨x163, ex163⟩ : ∃ y : Int32, y = (nI t) + 1 := ⟨_, rfl⟩
                      refine lv_iinc (v := x163) (lv' := [(4, .int x163), (2, .int 0), (0, .ref m_)]) hx hb dX4_open_163 hl (k := 1) rfl (by rw [ex163]; rfl) (by decide) rfl (fun ls hl => ?_)
                      obtain rfl : x163 = nI (t + 1) := by rw [ex163]; exact nI_1 _
                      refine lv_goto (tgt := 123) hx hb dX4_open_166 (by decide) ?_
                      exact ih_123 (t + 1) false (fun h => absurd h Bool.false_ne_true) (fun _ hf => hkk (hf.2.2.2.2.1 t ht8)) (by omega) (by omega) H locs ls hP hD hS (lv_sub hl [0, 1, 2] rfl)
                    · skip
                      have hkk : F (2 + 9 * t) < K := by have := mt (nI_leI (a := K) (b := F (2 + 9 * t)) (by omega) (by omega)).mpr c154; omega
                      refine lv_iconst (v := 1) hx hb dX4_open_157 (by decide) ?_
                      refine lv_goto (tgt := 162) hx hb dX4_open_158 (by decide) ?_
                      refine lv_istore_n (lv' := [(2, .int 1), (4, .int (nI t)), (0, .ref m_)]) hx hb dX4_open_162 rfl hl (by decide) rfl (fun ls hl => ?_)
                      obtain ⟨x163, ex163⟩ : ∃ y : Int32, y = (nI t) + 1 := ⟨_, rfl⟩
                      refine lv_iinc (v := x163) (lv' := [(4, .int x163), (2, .int 1), (0, .ref m_)]) hx hb dX4_open_163 hl (k := 1) rfl (by rw [ex163]; rfl) (by decide) rfl (fun ls hl => ?_)
                      obtain rfl : x163 = nI (t + 1) := by rw [ex163]; exact nI_1 _
                      refine lv_goto (tgt := 123) hx hb dX4_open_166 (by decide) ?_
                      exact ih_123 (t + 1) true (fun _ => ⟨hin.1, fun j hj => (Nat.lt_or_ge j t).elim (fun h => hin.2 j h) (fun h => by rw [show j = t by omega]; exact hkk)⟩) (fun h => absurd h.symm Bool.false_ne_true) (by omega) (by omega) H locs ls hP hD hS (lv_sub hl [0, 1, 2] rfl)
            exact L_123 _ 0 g1 (fun h => ⟨hg1.mp h, fun j hj => absurd hj (Nat.not_lt_zero _)⟩) (fun h hf => by rw [hg1.mpr (fit_to hf)] at h; cases h) (Nat.zero_le _) (Nat.lt_succ_self _) H locs ls hP hD hS (lv_sub hl [0, 1, 3] rfl)
          refine lv_if_eq (tgt := 118) hx hb dX4_open_95 (by decide) (fun c95 => ?_) (fun c95 => ?_)
          · skip
            have hg0 := bI_0.mp c95
            have hno : ¬ ((3 ≤ fc ∧ F 0 = K ∧ F 1 ≤ 40 ∧ fc = 3 + 9 * F 1) ∧ F (fc - 1) = sumN F (fc - 1) % 256) := fun h => by rw [hg.mpr h.1] at hg0; cases hg0
            refine lv_iconst (v := 0) hx hb dX4_open_118 (by decide) ?_
            exact J_119 false ⟨fun h => absurd h Bool.false_ne_true, fun h => absurd h hno⟩ H locs ls hP hD hS (lv_sub hl [3, 4] rfl)
          · skip
            have hg0 := bI_n0.mp c95
            have hp0 := hg.mp hg0
            have hFe := hF (fc - 1)
            refine lv_iload_n hx hb dX4_open_98 rfl (lv_at hl 1 rfl) ?_
            refine lv_sipush (v := 256) hx hb dX4_open_99 (by decide) ?_
            refine lv_irem hx hb dX4_open_102 (by decide) ?_
            refine lv_topi (fun x102 ex102 => ?_)
            obtain rfl : x102 = nI (sumN F (fc - 1) % 256) := by rw [ex102]; exact pk_rem (d := 256) (by omega) (by omega) (by omega)
            refine lv_aload_n hx hb dX4_open_103 rfl (lv_at hl 4 rfl) ?_
            refine va_get (D := D) (ci := 5) (v := .ref mb_) (C := RX4) (T := TX4) (N := 17) hx hb hts in_X4 hown hK hP 0 rfl rfl 12 (by decide) f_36 (fun _ h9 => h9) rfl dX4_open_104 ?_
            refine lv_iload_n hx hb dX4_open_107 rfl (lv_at hl 3 rfl) ?_
            refine lv_iconst (v := 1) hx hb dX4_open_108 (by decide) ?_
            refine lv_isub hx hb dX4_open_109 ?_
            refine lv_topi (fun x109 ex109 => ?_)
            obtain rfl : x109 = nI (fc - 1) := by rw [ex109]; exact pk_sub (b := 1) (by omega)
            refine va_iald hx hb hK hP (8) 0 rfl rfl (vp_in_nI (by omega) (by omega)) dX4_open_110 ?_
            refine lv_topi (fun x110 ex110 => ?_)
            rw [nI_clamp (by omega)] at ex110
            obtain rfl : x110 = nI (F (fc - 1)) := by exact ex110
            refine lv_icmp_ne (tgt := 118) hx hb dX4_open_111 (by decide) (fun c111 => ?_) (fun c111 => ?_)
            · skip
              have hno : ¬ ((3 ≤ fc ∧ F 0 = K ∧ F 1 ≤ 40 ∧ fc = 3 + 9 * F 1) ∧ F (fc - 1) = sumN F (fc - 1) % 256) := fun h => c111 (congrArg nI h.2.symm)
              refine lv_iconst (v := 0) hx hb dX4_open_118 (by decide) ?_
              exact J_119 false ⟨fun h => absurd h Bool.false_ne_true, fun h => absurd h hno⟩ H locs ls hP hD hS (lv_sub hl [3, 4] rfl)
            · skip
              have hsm : F (fc - 1) = sumN F (fc - 1) % 256 := ((nI_eq (by omega) (by omega)).mp c111).symm
              refine lv_iconst (v := 1) hx hb dX4_open_114 (by decide) ?_
              refine lv_goto (tgt := 119) hx hb dX4_open_115 (by decide) ?_
              exact J_119 true ⟨fun _ => ⟨hg.mp hg0, hsm⟩, fun _ => rfl⟩ H locs ls hP hD hS (lv_sub hl [3, 4] rfl)
        · skip
          have hk8 : k + 1 < fc := by have := mt (nI_leI (a := fc) (b := k + 1) (by omega) (by omega)).mpr c75; omega
          refine lv_iload_n hx hb dX4_open_78 rfl (lv_at hl 1 rfl) ?_
          refine lv_aload_n hx hb dX4_open_79 rfl (lv_at hl 4 rfl) ?_
          refine va_get (D := D) (ci := 5) (v := .ref mb_) (C := RX4) (T := TX4) (N := 17) hx hb hts in_X4 hown hK hP 0 rfl rfl 12 (by decide) f_36 (fun _ h9 => h9) rfl dX4_open_80 ?_
          refine lv_iload hx hb dX4_open_83 (lv_at hl 0 rfl) ?_
          refine va_iald hx hb hK hP (8) 0 rfl rfl (by first | exact vp_in_nI (by omega) (by omega) | assumption) dX4_open_85 ?_
          refine lv_topi (fun x85 ex85 => ?_)
          rw [nI_clamp (by omega)] at ex85
          obtain rfl : x85 = nI (F k) := by exact ex85
          refine lv_iadd hx hb dX4_open_86 ?_
          refine lv_topi (fun x86 ex86 => ?_)
          obtain rfl : x86 = nI (sumN F (k + 1)) := by rw [ex86]; exact nI_add _ _
          refine lv_istore_n (lv' := [(3, .int (nI (sumN F (k + 1)))), (4, .int (nI k)), (2, .int (bI g0)), (1, .int (nI fc)), (0, .ref m_)]) hx hb dX4_open_87 rfl hl (by decide) rfl (fun ls hl => ?_)
          obtain ⟨x88, ex88⟩ : ∃ y : Int32, y = (nI k) + 1 := ⟨_, rfl⟩
          refine lv_iinc (v := x88) (lv' := [(4, .int x88), (3, .int (nI (sumN F (k + 1)))), (2, .int (bI g0)), (1, .int (nI fc)), (0, .ref m_)]) hx hb dX4_open_88 hl (k := 1) rfl (by rw [ex88]; rfl) (by decide) rfl (fun ls hl => ?_)
          obtain rfl : x88 = nI (k + 1) := by rw [ex88]; exact nI_1 _
          refine lv_goto (tgt := 70) hx hb dX4_open_91 (by decide) ?_
          exact ih_70 (k + 1) (by omega) (by omega) H locs ls hP hD hS (lv_sub hl [0, 1, 2, 3, 4] rfl)
    exact L_70 _ 0 (Nat.zero_le _) (Nat.lt_succ_self _) H locs ls hP hD hS (lv_sub hl [0, 1, 2, 3, 4] rfl)
  refine lv_icmp_lt (tgt := 63) hx hb dX4_open_17 (by decide) (fun c17 => ?_) (fun c17 => ?_)
  · skip
    have hno : ¬ (3 ≤ fc ∧ F 0 = K ∧ F 1 ≤ 40 ∧ fc = 3 + 9 * F 1) := fun h => by have := (nI_ltI (b := 3) (by omega) (by omega)).mp c17; omega
    refine lv_iconst (v := 0) hx hb dX4_open_63 (by decide) ?_
    exact J_64 false ⟨fun h => absurd h Bool.false_ne_true, fun h => absurd h hno⟩ H locs ls hP hD hS (lv_sub hl [0, 1] rfl)
  · skip
    have hl3 : 3 ≤ fc := by have := mt (nI_ltI (a := fc) (b := 3) (by omega) (by omega)).mpr c17; omega
    refine lv_aload_n hx hb dX4_open_20 rfl (lv_at hl 1 rfl) ?_
    refine va_get (D := D) (ci := 5) (v := .ref mb_) (C := RX4) (T := TX4) (N := 17) hx hb hts in_X4 hown hK hP 0 rfl rfl 12 (by decide) f_36 (fun _ h9 => h9) rfl dX4_open_21 ?_
    refine lv_iconst (v := 0) hx hb dX4_open_24 (by decide) ?_
    refine va_iald hx hb hK hP (8) 0 rfl rfl (vp_in_nI (n := 0) (by omega) (by omega)) dX4_open_25 ?_
    refine lv_topi (fun x25 ex25 => ?_)
    obtain rfl : x25 = nI (F 0) := by exact ex25
    refine lv_aload_n hx hb dX4_open_26 rfl (lv_at hl 1 rfl) ?_
    refine va_get (D := D) (ci := 5) (v := .int (nI K)) (C := RX4) (T := TX4) (N := 17) hx hb hts in_X4 hown hK hP 0 rfl rfl 0 (by decide) f_45 (fun _ h9 => h9) rfl dX4_open_27 ?_
    refine lv_icmp_ne (tgt := 63) hx hb dX4_open_30 (by decide) (fun c30 => ?_) (fun c30 => ?_)
    · skip
      have hno : ¬ (3 ≤ fc ∧ F 0 = K ∧ F 1 ≤ 40 ∧ fc = 3 + 9 * F 1) := fun h => c30 (by rw [h.2.1])
      refine lv_iconst (v := 0) hx hb dX4_open_63 (by decide) ?_
      exact J_64 false ⟨fun h => absurd h Bool.false_ne_true, fun h => absurd h hno⟩ H locs ls hP hD hS (lv_sub hl [0, 1] rfl)
    · skip
      have hf0 : F 0 = K := (nI_eq (by omega) (by omega)).mp c30
      refine lv_aload_n hx hb dX4_open_33 rfl (lv_at hl 1 rfl) ?_
      refine va_get (D := D) (ci := 5) (v := .ref mb_) (C := RX4) (T := TX4) (N := 17) hx hb hts in_X4 hown hK hP 0 rfl rfl 12 (by decide) f_36 (fun _ h9 => h9) rfl dX4_open_34 ?_
      refine lv_iconst (v := 1) hx hb dX4_open_37 (by decide) ?_
      refine va_iald hx hb hK hP (8) 0 rfl rfl (vp_in_nI (n := 1) (by omega) (by omega)) dX4_open_38 ?_
      refine lv_topi (fun x38 ex38 => ?_)
      obtain rfl : x38 = nI (F 1) := by exact ex38
      refine lv_bipush (v := 40) hx hb dX4_open_39 (by decide) ?_
      refine lv_icmp_gt (tgt := 63) hx hb dX4_open_41 (by decide) (fun c41 => ?_) (fun c41 => ?_)
      · skip
        have hno : ¬ (3 ≤ fc ∧ F 0 = K ∧ F 1 ≤ 40 ∧ fc = 3 + 9 * F 1) := fun h => by have := (nI_ltI (a := 40) (by omega) (by omega)).mp c41; omega
        refine lv_iconst (v := 0) hx hb dX4_open_63 (by decide) ?_
        exact J_64 false ⟨fun h => absurd h Bool.false_ne_true, fun h => absurd h hno⟩ H locs ls hP hD hS (lv_sub hl [0, 1] rfl)
      · skip
        have hf1 : F 1 ≤ 40 := by have := mt (nI_ltI (a := 40) (b := F 1) (by omega) (by omega)).mpr c41; omega
        refine lv_iload_n hx hb dX4_open_44 rfl (lv_at hl 0 rfl) ?_
        refine lv_iconst (v := 3) hx hb dX4_open_45 (by decide) ?_
        refine lv_bipush (v := 9) hx hb dX4_open_46 (by decide) ?_
        refine lv_aload_n hx hb dX4_open_48 rfl (lv_at hl 1 rfl) ?_
        refine va_get (D := D) (ci := 5) (v := .ref mb_) (C := RX4) (T := TX4) (N := 17) hx hb hts in_X4 hown hK hP 0 rfl rfl 12 (by decide) f_36 (fun _ h9 => h9) rfl dX4_open_49 ?_
        refine lv_iconst (v := 1) hx hb dX4_open_52 (by decide) ?_
        refine va_iald hx hb hK hP (8) 0 rfl rfl (vp_in_nI (n := 1) (by omega) (by omega)) dX4_open_53 ?_
        refine lv_topi (fun x53 ex53 => ?_)
        obtain rfl : x53 = nI (F 1) := by exact ex53
        refine lv_imul hx hb dX4_open_54 ?_
        refine lv_topi (fun x54 ex54 => ?_)
        obtain rfl : x54 = nI (9 * F 1) := by rw [ex54]; exact pk_mul 9 _
        refine lv_iadd hx hb dX4_open_55 ?_
        refine lv_topi (fun x55 ex55 => ?_)
        obtain rfl : x55 = nI (3 + 9 * F 1) := by rw [ex55]; exact nI_add 3 _
        refine lv_icmp_ne (tgt := 63) hx hb dX4_open_56 (by decide) (fun c56 => ?_) (fun c56 => ?_)
        · skip
          have hno : ¬ (3 ≤ fc ∧ F 0 = K ∧ F 1 ≤ 40 ∧ fc = 3 + 9 * F 1) := fun h => c56 (congrArg nI h.2.2.2)
          refine lv_iconst (v := 0) hx hb dX4_open_63 (by decide) ?_
          exact J_64 false ⟨fun h => absurd h Bool.false_ne_true, fun h => absurd h hno⟩ H locs ls hP hD hS (lv_sub hl [0, 1] rfl)
        · skip
          have hle : fc = 3 + 9 * F 1 := (nI_eq (by omega) (by omega)).mp c56
          refine lv_iconst (v := 1) hx hb dX4_open_59 (by decide) ?_
          refine lv_goto (tgt := 64) hx hb dX4_open_60 (by decide) ?_
          exact J_64 true ⟨fun _ => ⟨hl3, hf0, hf1, hle⟩, fun _ => rfl⟩ H locs ls hP hD hS (lv_sub hl [0, 1] rfl)
