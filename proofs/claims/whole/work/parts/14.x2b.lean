abbrev rX2_plainByte : Room := { frames := 0, cells := 0, slots := 0, locals := 0 }
set_option maxHeartbeats 4000000 in
set_option maxRecDepth 100000 in
theorem c_X2_plainByte (l : Launch) (D : va_G) (cI cJ cG : ClassId) (sz : Nat) (R : va_W) (t_ rk_ ro_ rc_ al_ : Nat) (ar ac : Nat → Nat) (K n : Nat) (kn : Nat → Nat) (M C : Nat → Nat → Nat) (al : Nat → Nat) (i : Nat) (hi : i < 2 + 9 * n) (hn : n ≤ 40) : Met l yX2_plainByte wsX2_plainByte rX2_plainByte (gP D (tyl cI cJ cG) [.ref t_, .int (nI i)] ((t_, .inr (3, [.int (nI K), .ref rk_, .ref ro_, .ref rc_, .ref al_, .int (nI n)])) :: (rk_, .inl (cI, 40, .inl (nf kn))) :: (ro_, .inl (cG, 40, .inr (.inr (.inr (.inr (og ar)))))) :: (rc_, .inl (cG, 40, .inr (.inr (.inr (.inr (og ac)))))) :: (al_, .inl (cI, 7, .inl (nf al))) :: (pr cI ar M ++ (pq cI ac C ++ R))) sz) (gQi D (tyl cI cJ cG) ((t_, .inr (3, [.int (nI K), .ref rk_, .ref ro_, .ref rc_, .ref al_, .int (nI n)])) :: (rk_, .inl (cI, 40, .inl (nf kn))) :: (ro_, .inl (cG, 40, .inr (.inr (.inr (.inr (og ar)))))) :: (rc_, .inl (cG, 40, .inr (.inr (.inr (.inr (og ac)))))) :: (al_, .inl (cI, 7, .inl (nf al))) :: (pr cI ar M ++ (pq cI ac C ++ R))) sz (fun r (_ : Unit) => r = nI (pbN K n kn M i)) (fun _ => ((t_, .inr (3, [.int (nI K), .ref rk_, .ref ro_, .ref rc_, .ref al_, .int (nI n)])) :: (rk_, .inl (cI, 40, .inl (nf kn))) :: (ro_, .inl (cG, 40, .inr (.inr (.inr (.inr (og ar)))))) :: (rc_, .inl (cG, 40, .inr (.inr (.inr (.inr (og ac)))))) :: (al_, .inl (cI, 7, .inl (nf al))) :: (pr cI ar M ++ (pq cI ac C ++ R))))) 0 0 (va_A ((t_, .inr (3, [.int (nI K), .ref rk_, .ref ro_, .ref rc_, .ref al_, .int (nI n)])) :: (rk_, .inl (cI, 40, .inl (nf kn))) :: (ro_, .inl (cG, 40, .inr (.inr (.inr (.inr (og ar)))))) :: (rc_, .inl (cG, 40, .inr (.inr (.inr (.inr (og ac)))))) :: (al_, .inl (cI, 7, .inl (nf al))) :: (pr cI ar M ++ (pq cI ac C ++ R))) sz) := by
  refine gMet (cc := cX2_plainByte) (maxL := 4) (ret := (some .int)) (ls0 := [(0, .ref t_), (1, .int (nI i))]) (by decide) rfl (Nat.le_of_ble_eq_true rfl) rfl ?_
  intro p e s m below meth c hx hb hr hts hown hlocks hml hname A hA hAe hsz Q hQe H locs hP hK hD hS ls hl
  have hown : s.vm.findClass RX2 = some m.cls := hown
  have in_X2 : ∀ w ∈ wsX20, w ∈ wsX2_plainByte := by decide +kernel
  have f_17 := hts (.fieldLink RX2 17 "SpectrumHeads$Table" "rows" "[[I") (by decide +kernel)
  have f_9 := hts (.fieldLink RX2 9 "SpectrumHeads$Table" "rowKinds" "[I") (by decide +kernel)
  have f_30 := hts (.fieldLink RX2 30 "SpectrumHeads$Table" "count" "I") (by decide +kernel)
  have f_26 := hts (.fieldLink RX2 26 "SpectrumHeads$Table" "kinds" "I") (by decide +kernel)
  refine lv_iload_n hx hb dX2_plainByte_0 rfl (lv_at hl 1 rfl) ?_
  refine lv_iconst (v := 2) hx hb dX2_plainByte_1 (by decide) ?_
  refine lv_icmp_ge (tgt := 21) hx hb dX2_plainByte_2 (by decide) (fun c2 => ?_) (fun c2 => ?_)
  · skip
    have h2 : 2 ≤ i := (nI_leI (a := 2) (by omega) (by omega)).mp c2
    refine lv_iload_n hx hb dX2_plainByte_21 rfl (lv_at hl 1 rfl) ?_
    refine lv_iconst (v := 2) hx hb dX2_plainByte_22 (by decide) ?_
    refine lv_isub hx hb dX2_plainByte_23 ?_
    refine lv_topi (fun x23 ex23 => ?_)
    obtain rfl : x23 = nI (i - 2) := by rw [ex23]; exact pk_sub (b := 2) (by omega)
    refine lv_bipush (v := 9) hx hb dX2_plainByte_24 (by decide) ?_
    refine lv_idiv hx hb dX2_plainByte_26 (by decide) ?_
    refine lv_topi (fun x26 ex26 => ?_)
    obtain rfl : x26 = nI ((i - 2) / 9) := by rw [ex26]; exact pk_div (d := 9) (by omega) (by omega) (by omega)
    refine lv_istore_n (lv' := [(2, .int (nI ((i - 2) / 9))), (0, .ref t_), (1, .int (nI i))]) hx hb dX2_plainByte_27 rfl hl (by decide) rfl (fun ls hl => ?_)
    refine lv_iload_n hx hb dX2_plainByte_28 rfl (lv_at hl 2 rfl) ?_
    refine lv_iconst (v := 2) hx hb dX2_plainByte_29 (by decide) ?_
    refine lv_isub hx hb dX2_plainByte_30 ?_
    refine lv_topi (fun x30 ex30 => ?_)
    obtain rfl : x30 = nI (i - 2) := by rw [ex30]; exact pk_sub (b := 2) (by omega)
    refine lv_bipush (v := 9) hx hb dX2_plainByte_31 (by decide) ?_
    refine lv_irem hx hb dX2_plainByte_33 (by decide) ?_
    refine lv_topi (fun x33 ex33 => ?_)
    obtain rfl : x33 = nI ((i - 2) % 9) := by rw [ex33]; exact pk_rem (d := 9) (by omega) (by omega) (by omega)
    refine lv_istore_n (lv' := [(3, .int (nI ((i - 2) % 9))), (2, .int (nI ((i - 2) / 9))), (0, .ref t_), (1, .int (nI i))]) hx hb dX2_plainByte_34 rfl hl (by decide) rfl (fun ls hl => ?_)
    refine lv_iload_n hx hb dX2_plainByte_35 rfl (lv_at hl 0 rfl) ?_
    refine lv_if_ne (tgt := 48) hx hb dX2_plainByte_36 (by decide) (fun c36 => ?_) (fun c36 => ?_)
    · skip
      have h9 : ¬ (i - 2) % 9 = 0 := fun h => c36 (by rw [h]; rfl)
      refine lv_aload_n hx hb dX2_plainByte_48 rfl (lv_at hl 2 rfl) ?_
      refine va_get (D := D) (ci := 3) (v := .ref ro_) (C := RX2) (T := TX2) (N := 6) hx hb hts in_X2 hown hK hP 0 rfl rfl 2 (by decide) f_17 (fun _ h9 => h9) rfl dX2_plainByte_49 ?_
      refine lv_iload_n hx hb dX2_plainByte_52 rfl (lv_at hl 1 rfl) ?_
      refine g_aald (v := (ar ((i - 2) / 9))) hx hb hK hP 2 2 rfl rfl (by first | exact vp_in_nI (by omega) (by omega) | assumption) (og_nI (by omega)) dX2_plainByte_53 ?_
      refine lv_iload_n hx hb dX2_plainByte_54 rfl (lv_at hl 0 rfl) ?_
      refine lv_iconst (v := 1) hx hb dX2_plainByte_55 (by decide) ?_
      refine lv_isub hx hb dX2_plainByte_56 ?_
      refine lv_topi (fun x56 ex56 => ?_)
      obtain rfl : x56 = nI ((i - 2) % 9 - 1) := by rw [ex56]; exact pk_sub (b := 1) (by omega)
      refine va_iald hx hb hK hP ((i - 2) / 9 + 5) 0 (pr_get (by omega)) rfl (by first | exact vp_in_nI (by omega) (by omega) | assumption) dX2_plainByte_57 ?_
      refine lv_topi (fun x57 ex57 => ?_)
      rw [nI_clamp (by omega)] at ex57
      obtain rfl : x57 = nI (M ((i - 2) / 9) ((i - 2) % 9 - 1)) := by exact ex57
      subst hQe
      subst hAe
      subst hsz
      exact g_iret hx hb hr hlocks () (by first | rw [pb_0 h6] | rw [pb_1 (by omega)] | rw [pb_k h2 h9] | rw [pb_m h2 h9]) hP hK hD hS dX2_plainByte_58
    · skip
      have h9 : (i - 2) % 9 = 0 := (nI_eq (b := 0) (by omega) (by omega)).mp c36
      refine lv_aload_n hx hb dX2_plainByte_39 rfl (lv_at hl 2 rfl) ?_
      refine va_get (D := D) (ci := 3) (v := .ref rk_) (C := RX2) (T := TX2) (N := 6) hx hb hts in_X2 hown hK hP 0 rfl rfl 1 (by decide) f_9 (fun _ h9 => h9) rfl dX2_plainByte_40 ?_
      refine lv_iload_n hx hb dX2_plainByte_43 rfl (lv_at hl 1 rfl) ?_
      refine va_iald hx hb hK hP (1) 0 rfl rfl (by first | exact vp_in_nI (by omega) (by omega) | assumption) dX2_plainByte_44 ?_
      refine lv_topi (fun x44 ex44 => ?_)
      rw [nI_clamp (by omega)] at ex44
      obtain rfl : x44 = nI (kn ((i - 2) / 9)) := by exact ex44
      refine lv_goto (tgt := 58) hx hb dX2_plainByte_45 (by decide) ?_
      subst hQe
      subst hAe
      subst hsz
      exact g_iret hx hb hr hlocks () (by first | rw [pb_0 h6] | rw [pb_1 (by omega)] | rw [pb_k h2 h9] | rw [pb_m h2 h9]) hP hK hD hS dX2_plainByte_58
  · skip
    have h2 : i < 2 := lt2 (n := 2) c2 (by omega)
    refine lv_iload_n hx hb dX2_plainByte_5 rfl (lv_at hl 1 rfl) ?_
    refine lv_if_ne (tgt := 16) hx hb dX2_plainByte_6 (by decide) (fun c6 => ?_) (fun c6 => ?_)
    · skip
      have h6 : ¬ i = 0 := fun h => c6 (by rw [h]; rfl)
      refine lv_aload_n hx hb dX2_plainByte_16 rfl (lv_at hl 0 rfl) ?_
      refine va_get (D := D) (ci := 3) (v := .int (nI n)) (C := RX2) (T := TX2) (N := 6) hx hb hts in_X2 hown hK hP 0 rfl rfl 5 (by decide) f_30 (fun _ h9 => h9) rfl dX2_plainByte_17 ?_
      subst hQe
      subst hAe
      subst hsz
      exact g_iret hx hb hr hlocks () (by first | rw [pb_0 h6] | rw [pb_1 (by omega)] | rw [pb_k h2 h9] | rw [pb_m h2 h9]) hP hK hD hS dX2_plainByte_20
    · skip
      have h6 : i = 0 := (nI_eq (b := 0) (by omega) (by omega)).mp c6
      refine lv_aload_n hx hb dX2_plainByte_9 rfl (lv_at hl 0 rfl) ?_
      refine va_get (D := D) (ci := 3) (v := .int (nI K)) (C := RX2) (T := TX2) (N := 6) hx hb hts in_X2 hown hK hP 0 rfl rfl 0 (by decide) f_26 (fun _ h9 => h9) rfl dX2_plainByte_10 ?_
      refine lv_goto (tgt := 20) hx hb dX2_plainByte_13 (by decide) ?_
      subst hQe
      subst hAe
      subst hsz
      exact g_iret hx hb hr hlocks () (by first | rw [pb_0 h6] | rw [pb_1 (by omega)] | rw [pb_k h2 h9] | rw [pb_m h2 h9]) hP hK hD hS dX2_plainByte_20
abbrev rX2_check : Room := { frames := 1, cells := 0, slots := 0, locals := 23 }
set_option maxHeartbeats 4000000 in
set_option maxRecDepth 100000 in
theorem c_X2_check (l : Launch) (D : va_G) (cI cJ cG : ClassId) (sz : Nat) (R : va_W) (t_ rk_ ro_ rc_ al_ : Nat) (ar ac : Nat → Nat) (K n : Nat) (kn : Nat → Nat) (M C : Nat → Nat → Nat) (al : Nat → Nat) (e_ : Nat) (he : e_ ≤ 2 + 9 * n) (hn : n ≤ 40) (hKb : K ≤ 255) (hkn : ∀ i, kn i ≤ 255) (hM : ∀ i k, M i k ≤ 255) : Met l yX2_check wsX2_check rX2_check (gP D (tyl cI cJ cG) [.ref t_, .int (nI e_)] ((t_, .inr (3, [.int (nI K), .ref rk_, .ref ro_, .ref rc_, .ref al_, .int (nI n)])) :: (rk_, .inl (cI, 40, .inl (nf kn))) :: (ro_, .inl (cG, 40, .inr (.inr (.inr (.inr (og ar)))))) :: (rc_, .inl (cG, 40, .inr (.inr (.inr (.inr (og ac)))))) :: (al_, .inl (cI, 7, .inl (nf al))) :: (pr cI ar M ++ (pq cI ac C ++ R))) sz) (gQi D (tyl cI cJ cG) ((t_, .inr (3, [.int (nI K), .ref rk_, .ref ro_, .ref rc_, .ref al_, .int (nI n)])) :: (rk_, .inl (cI, 40, .inl (nf kn))) :: (ro_, .inl (cG, 40, .inr (.inr (.inr (.inr (og ar)))))) :: (rc_, .inl (cG, 40, .inr (.inr (.inr (.inr (og ac)))))) :: (al_, .inl (cI, 7, .inl (nf al))) :: (pr cI ar M ++ (pq cI ac C ++ R))) sz (fun r (_ : Unit) => r = nI (sumN (pbN K n kn M) e_ % 256)) (fun _ => ((t_, .inr (3, [.int (nI K), .ref rk_, .ref ro_, .ref rc_, .ref al_, .int (nI n)])) :: (rk_, .inl (cI, 40, .inl (nf kn))) :: (ro_, .inl (cG, 40, .inr (.inr (.inr (.inr (og ar)))))) :: (rc_, .inl (cG, 40, .inr (.inr (.inr (.inr (og ac)))))) :: (al_, .inl (cI, 7, .inl (nf al))) :: (pr cI ar M ++ (pq cI ac C ++ R))))) 0 0 (va_A ((t_, .inr (3, [.int (nI K), .ref rk_, .ref ro_, .ref rc_, .ref al_, .int (nI n)])) :: (rk_, .inl (cI, 40, .inl (nf kn))) :: (ro_, .inl (cG, 40, .inr (.inr (.inr (.inr (og ar)))))) :: (rc_, .inl (cG, 40, .inr (.inr (.inr (.inr (og ac)))))) :: (al_, .inl (cI, 7, .inl (nf al))) :: (pr cI ar M ++ (pq cI ac C ++ R))) sz) := by
  refine gMet (cc := cX2_check) (maxL := 4) (ret := (some .int)) (ls0 := [(0, .ref t_), (1, .int (nI e_))]) (by decide) rfl (Nat.le_of_ble_eq_true rfl) rfl ?_
  intro p e s m below meth c hx hb hr hts hown hlocks hml hname A hA hAe hsz Q hQe H locs hP hK hD hS ls hl
  have hown : s.vm.findClass RX2 = some m.cls := hown
  refine lv_iconst (v := 0) hx hb dX2_check_0 (by decide) ?_
  refine lv_istore_n (lv' := [(2, .int 0), (0, .ref t_), (1, .int (nI e_))]) hx hb dX2_check_1 rfl hl (by decide) rfl (fun ls hl => ?_)
  refine lv_iconst (v := 0) hx hb dX2_check_2 (by decide) ?_
  refine lv_istore_n (lv' := [(3, .int 0), (2, .int 0), (0, .ref t_), (1, .int (nI e_))]) hx hb dX2_check_3 rfl hl (by decide) rfl (fun ls hl => ?_)
  have L_4 : ∀ (n_4 : Nat) (i : Nat) (hi : i ≤ e_), e_ - i < n_4 → ∀ (H : Heap) (locs : List Loc) (ls : Array Slot), va_P D vwCl ((t_, .inr (3, [.int (nI K), .ref rk_, .ref ro_, .ref rc_, .ref al_, .int (nI n)])) :: (rk_, .inl (cI, 40, .inl (nf kn))) :: (ro_, .inl (cG, 40, .inr (.inr (.inr (.inr (og ar)))))) :: (rc_, .inl (cG, 40, .inr (.inr (.inr (.inr (og ac)))))) :: (al_, .inl (cI, 7, .inl (nf al))) :: (pr cI ar M ++ (pq cI ac C ++ R))) H → va_D A ((t_, .inr (3, [.int (nI K), .ref rk_, .ref ro_, .ref rc_, .ref al_, .int (nI n)])) :: (rk_, .inl (cI, 40, .inl (nf kn))) :: (ro_, .inl (cG, 40, .inr (.inr (.inr (.inr (og ar)))))) :: (rc_, .inl (cG, 40, .inr (.inr (.inr (.inr (og ac)))))) :: (al_, .inl (cI, 7, .inl (nf al))) :: (pr cI ar M ++ (pq cI ac C ++ R))) → va_S A s.heap H locs → lv_has ls 4 [(3, .int (nI i)), (2, .int (nI (sumN (pbN K n kn M) i))), (0, .ref t_), (1, .int (nI e_))] → W p l e (headSpec wsX2_check rX2_check).room s m ([.ref t_, .int (nI e_)] : List Value).toArray below meth c H locs 0 0 Q (F0 m 4 ls []) := by
    intro n_4
    induction n_4 with
    | zero => intro i hi hn_; exact absurd hn_ (Nat.not_lt_zero _)
    | succ n_4 ih_4 =>
      intro i hi hn_4 H locs ls hP hD hS hl
      refine lv_iload_n hx hb dX2_check_4 rfl (lv_at hl 0 rfl) ?_
      refine lv_iload_n hx hb dX2_check_5 rfl (lv_at hl 3 rfl) ?_
      refine lv_icmp_ge (tgt := 23) hx hb dX2_check_6 (by decide) (fun c6 => ?_) (fun c6 => ?_)
      · skip
        have hE6 := lp_e (n := e_) c6 hi
        subst hE6
        have hsb := sumN_le (pbN_le (n := n) hKb (by omega) hkn hM) e_
        refine lv_iload_n hx hb dX2_check_23 rfl (lv_at hl 1 rfl) ?_
        refine lv_sipush (v := 256) hx hb dX2_check_24 (by decide) ?_
        refine lv_irem hx hb dX2_check_27 (by decide) ?_
        refine lv_topi (fun x27 ex27 => ?_)
        obtain rfl : x27 = nI (sumN (pbN K n kn M) e_ % 256) := by rw [ex27]; exact pk_rem (d := 256) (by omega) (by omega) (by omega)
        subst hQe
        subst hAe
        subst hsz
        exact g_iret hx hb hr hlocks () rfl hP hK hD hS dX2_check_28
      · skip
        have hi8 := lp_l (n := e_) c6 hi
        refine lv_iload_n hx hb dX2_check_9 rfl (lv_at hl 1 rfl) ?_
        refine lv_aload_n hx hb dX2_check_10 rfl (lv_at hl 2 rfl) ?_
        refine lv_iload_n hx hb dX2_check_11 rfl (lv_at hl 0 rfl) ?_
        refine gc_Vi (As := [.int (nI i)]) (rest := [.int (nI (sumN (pbN K n kn M) i))]) (ci := 3) (q0 := 0) ⟨hx, hb, hml, hown, hts⟩ (c_X2_plainByte l D cI cJ cG H.size R t_ rk_ ro_ rc_ al_ ar ac K n kn M C al i (by omega) hn) (cwV 1 hts gX2_check_X2_plainByte rfl rfl rfl (by decide +kernel) ⟨Nat.le_of_ble_eq_true rfl, Nat.le_of_ble_eq_true rfl⟩) rfl rfl rfl hK hP hD hS hA rfl hl.1 rfl (Nat.le_of_ble_eq_true rfl) dX2_check_12 ⟨Nat.le_of_ble_eq_true rfl, Nat.le_of_ble_eq_true rfl⟩ (fun r12 u12 H locs h12 hP hD hS => ?_)
        subst h12
        have hP : va_P D vwCl ((t_, .inr (3, [.int (nI K), .ref rk_, .ref ro_, .ref rc_, .ref al_, .int (nI n)])) :: (rk_, .inl (cI, 40, .inl (nf kn))) :: (ro_, .inl (cG, 40, .inr (.inr (.inr (.inr (og ar)))))) :: (rc_, .inl (cG, 40, .inr (.inr (.inr (.inr (og ac)))))) :: (al_, .inl (cI, 7, .inl (nf al))) :: (pr cI ar M ++ (pq cI ac C ++ R))) H := hP
        have hD : va_D A ((t_, .inr (3, [.int (nI K), .ref rk_, .ref ro_, .ref rc_, .ref al_, .int (nI n)])) :: (rk_, .inl (cI, 40, .inl (nf kn))) :: (ro_, .inl (cG, 40, .inr (.inr (.inr (.inr (og ar)))))) :: (rc_, .inl (cG, 40, .inr (.inr (.inr (.inr (og ac)))))) :: (al_, .inl (cI, 7, .inl (nf al))) :: (pr cI ar M ++ (pq cI ac C ++ R))) := hD
        refine lv_iadd hx hb dX2_check_15 ?_
        refine lv_topi (fun x15 ex15 => ?_)
        obtain rfl : x15 = nI (sumN (pbN K n kn M) (i + 1)) := by rw [ex15]; exact nI_add _ _
        refine lv_istore_n (lv' := [(2, .int (nI (sumN (pbN K n kn M) (i + 1)))), (3, .int (nI i)), (0, .ref t_), (1, .int (nI e_))]) hx hb dX2_check_16 rfl hl (by decide) rfl (fun ls hl => ?_)
        obtain ⟨x17, ex17⟩ : ∃ y : Int32, y = (nI i) + 1 := ⟨_, rfl⟩
        refine lv_iinc (v := x17) (lv' := [(3, .int x17), (2, .int (nI (sumN (pbN K n kn M) (i + 1)))), (0, .ref t_), (1, .int (nI e_))]) hx hb dX2_check_17 hl (k := 1) rfl (by rw [ex17]; rfl) (by decide) rfl (fun ls hl => ?_)
        obtain rfl : x17 = nI (i + 1) := by rw [ex17]; exact nI_1 _
        refine lv_goto (tgt := 4) hx hb dX2_check_20 (by decide) ?_
        exact ih_4 (i + 1) (by omega) (by omega) H locs ls hP hD hS (lv_sub hl [0, 1, 2, 3] rfl)
  exact L_4 _ 0 (Nat.zero_le _) (Nat.lt_succ_self _) H locs ls hP hD hS (lv_sub hl [0, 1, 2, 3] rfl)
abbrev rX2_packedByte : Room := { frames := 2, cells := 0, slots := 0, locals := 46 }
set_option maxHeartbeats 4000000 in
set_option maxRecDepth 100000 in
theorem c_X2_packedByte (l : Launch) (D : va_G) (cI cJ cG : ClassId) (sz : Nat) (R : va_W) (t_ rk_ ro_ rc_ al_ : Nat) (ar ac : Nat → Nat) (K n : Nat) (kn : Nat → Nat) (M C : Nat → Nat → Nat) (al : Nat → Nat) (x : Int32) (hn : n ≤ 40) (hKb : K ≤ 255) (hkn : ∀ i, kn i ≤ 255) (hM : ∀ i k, M i k ≤ 255) : Met l yX2_packedByte wsX2_packedByte rX2_packedByte (gP D (tyl cI cJ cG) [.ref t_, .int x] ((t_, .inr (3, [.int (nI K), .ref rk_, .ref ro_, .ref rc_, .ref al_, .int (nI n)])) :: (rk_, .inl (cI, 40, .inl (nf kn))) :: (ro_, .inl (cG, 40, .inr (.inr (.inr (.inr (og ar)))))) :: (rc_, .inl (cG, 40, .inr (.inr (.inr (.inr (og ac)))))) :: (al_, .inl (cI, 7, .inl (nf al))) :: (pr cI ar M ++ (pq cI ac C ++ R))) sz) (gQi D (tyl cI cJ cG) ((t_, .inr (3, [.int (nI K), .ref rk_, .ref ro_, .ref rc_, .ref al_, .int (nI n)])) :: (rk_, .inl (cI, 40, .inl (nf kn))) :: (ro_, .inl (cG, 40, .inr (.inr (.inr (.inr (og ar)))))) :: (rc_, .inl (cG, 40, .inr (.inr (.inr (.inr (og ac)))))) :: (al_, .inl (cI, 7, .inl (nf al))) :: (pr cI ar M ++ (pq cI ac C ++ R))) sz (fun r (_ : Unit) => r = pkN K n kn M x) (fun _ => ((t_, .inr (3, [.int (nI K), .ref rk_, .ref ro_, .ref rc_, .ref al_, .int (nI n)])) :: (rk_, .inl (cI, 40, .inl (nf kn))) :: (ro_, .inl (cG, 40, .inr (.inr (.inr (.inr (og ar)))))) :: (rc_, .inl (cG, 40, .inr (.inr (.inr (.inr (og ac)))))) :: (al_, .inl (cI, 7, .inl (nf al))) :: (pr cI ar M ++ (pq cI ac C ++ R))))) 0 0 (va_A ((t_, .inr (3, [.int (nI K), .ref rk_, .ref ro_, .ref rc_, .ref al_, .int (nI n)])) :: (rk_, .inl (cI, 40, .inl (nf kn))) :: (ro_, .inl (cG, 40, .inr (.inr (.inr (.inr (og ar)))))) :: (rc_, .inl (cG, 40, .inr (.inr (.inr (.inr (og ac)))))) :: (al_, .inl (cI, 7, .inl (nf al))) :: (pr cI ar M ++ (pq cI ac C ++ R))) sz) := by
  refine gMet (cc := cX2_packedByte) (maxL := 3) (ret := (some .int)) (ls0 := [(0, .ref t_), (1, .int x)]) (by decide) rfl (Nat.le_of_ble_eq_true rfl) rfl ?_
  intro p e s m below meth c hx hb hr hts hown hlocks hml hname A hA hAe hsz Q hQe H locs hP hK hD hS ls hl
  have hown : s.vm.findClass RX2 = some m.cls := hown
  have in_X2 : ∀ w ∈ wsX20, w ∈ wsX2_packedByte := by decide +kernel
  have f_30 := hts (.fieldLink RX2 30 "SpectrumHeads$Table" "count" "I") (by decide +kernel)
  refine lv_iconst (v := 2) hx hb dX2_packedByte_0 (by decide) ?_
  refine lv_bipush (v := 9) hx hb dX2_packedByte_1 (by decide) ?_
  refine lv_aload_n hx hb dX2_packedByte_3 rfl (lv_at hl 0 rfl) ?_
  refine va_get (D := D) (ci := 3) (v := .int (nI n)) (C := RX2) (T := TX2) (N := 6) hx hb hts in_X2 hown hK hP 0 rfl rfl 5 (by decide) f_30 (fun _ h9 => h9) rfl dX2_packedByte_4 ?_
  refine lv_imul hx hb dX2_packedByte_7 ?_
  refine lv_topi (fun x7 ex7 => ?_)
  obtain rfl : x7 = nI (9 * n) := by rw [ex7]; exact pk_mul 9 _
  refine lv_iadd hx hb dX2_packedByte_8 ?_
  refine lv_topi (fun x8 ex8 => ?_)
  obtain rfl : x8 = nI (2 + 9 * n) := by rw [ex8]; exact nI_add 2 _
  refine lv_istore_n (lv' := [(2, .int (nI (2 + 9 * n))), (0, .ref t_), (1, .int x)]) hx hb dX2_packedByte_9 rfl hl (by decide) rfl (fun ls hl => ?_)
  refine lv_iload_n hx hb dX2_packedByte_10 rfl (lv_at hl 2 rfl) ?_
  refine lv_if_lt (tgt := 19) hx hb dX2_packedByte_11 (by decide) (fun c11 => ?_) (fun c11 => ?_)
  · skip
    refine lv_iconst (v := -1) hx hb dX2_packedByte_19 (by decide) ?_
    subst hQe
    subst hAe
    subst hsz
    exact g_iret hx hb hr hlocks () (by first | exact pk_ng c11 | exact pk_ou hn c16 | exact pk_lo hn hj2 | exact pk_hi hn hj2) hP hK hD hS dX2_packedByte_20
  · skip
    refine lv_iload_n hx hb dX2_packedByte_14 rfl (lv_at hl 2 rfl) ?_
    refine lv_iload_n hx hb dX2_packedByte_15 rfl (lv_at hl 0 rfl) ?_
    refine lv_icmp_le (tgt := 21) hx hb dX2_packedByte_16 (by decide) (fun c16 => ?_) (fun c16 => ?_)
    · skip
      obtain ⟨j, hj, rfl⟩ := nI_of2 (nI_toInt (by omega)) c11 c16
      refine lv_iload_n hx hb dX2_packedByte_21 rfl (lv_at hl 2 rfl) ?_
      refine lv_iload_n hx hb dX2_packedByte_22 rfl (lv_at hl 0 rfl) ?_
      refine lv_icmp_ge (tgt := 34) hx hb dX2_packedByte_23 (by decide) (fun c23 => ?_) (fun c23 => ?_)
      · skip
        have hj2 : j = 2 + 9 * n := by have := (nI_leI (by omega) (by omega)).mp c23; omega
        refine lv_aload_n hx hb dX2_packedByte_34 rfl (lv_at hl 1 rfl) ?_
        refine lv_iload_n hx hb dX2_packedByte_35 rfl (lv_at hl 0 rfl) ?_
        refine gc_Vi (As := [.int (nI (2 + 9 * n))]) (rest := []) (ci := 3) (q0 := 0) ⟨hx, hb, hml, hown, hts⟩ (c_X2_check l D cI cJ cG H.size R t_ rk_ ro_ rc_ al_ ar ac K n kn M C al (2 + 9 * n) (Nat.le_refl _) hn hKb hkn hM) (cwV 1 hts gX2_packedByte_X2_check rfl rfl rfl (by decide +kernel) ⟨Nat.le_of_ble_eq_true rfl, Nat.le_of_ble_eq_true rfl⟩) rfl rfl rfl hK hP hD hS hA rfl hl.1 rfl (Nat.le_of_ble_eq_true rfl) dX2_packedByte_36 ⟨Nat.le_of_ble_eq_true rfl, Nat.le_of_ble_eq_true rfl⟩ (fun r36 u36 H locs h36 hP hD hS => ?_)
        subst h36
        have hP : va_P D vwCl ((t_, .inr (3, [.int (nI K), .ref rk_, .ref ro_, .ref rc_, .ref al_, .int (nI n)])) :: (rk_, .inl (cI, 40, .inl (nf kn))) :: (ro_, .inl (cG, 40, .inr (.inr (.inr (.inr (og ar)))))) :: (rc_, .inl (cG, 40, .inr (.inr (.inr (.inr (og ac)))))) :: (al_, .inl (cI, 7, .inl (nf al))) :: (pr cI ar M ++ (pq cI ac C ++ R))) H := hP
        have hD : va_D A ((t_, .inr (3, [.int (nI K), .ref rk_, .ref ro_, .ref rc_, .ref al_, .int (nI n)])) :: (rk_, .inl (cI, 40, .inl (nf kn))) :: (ro_, .inl (cG, 40, .inr (.inr (.inr (.inr (og ar)))))) :: (rc_, .inl (cG, 40, .inr (.inr (.inr (.inr (og ac)))))) :: (al_, .inl (cI, 7, .inl (nf al))) :: (pr cI ar M ++ (pq cI ac C ++ R))) := hD
        subst hQe
        subst hAe
        subst hsz
        exact g_iret hx hb hr hlocks () (by first | exact pk_ng c11 | exact pk_ou hn c16 | exact pk_lo hn hj2 | exact pk_hi hn hj2) hP hK hD hS dX2_packedByte_39
      · skip
        have hj2 : j < 2 + 9 * n := by have := mt (nI_leI (by omega) (by omega)).mpr c23; omega
        refine lv_aload_n hx hb dX2_packedByte_26 rfl (lv_at hl 1 rfl) ?_
        refine lv_iload_n hx hb dX2_packedByte_27 rfl (lv_at hl 2 rfl) ?_
        refine gc_Vi (As := [.int (nI j)]) (rest := []) (ci := 3) (q0 := 0) ⟨hx, hb, hml, hown, hts⟩ (c_X2_plainByte l D cI cJ cG H.size R t_ rk_ ro_ rc_ al_ ar ac K n kn M C al j hj2 hn) (cwV 1 hts gX2_packedByte_X2_plainByte rfl rfl rfl (by decide +kernel) ⟨Nat.le_of_ble_eq_true rfl, Nat.le_of_ble_eq_true rfl⟩) rfl rfl rfl hK hP hD hS hA rfl hl.1 rfl (Nat.le_of_ble_eq_true rfl) dX2_packedByte_28 ⟨Nat.le_of_ble_eq_true rfl, Nat.le_of_ble_eq_true rfl⟩ (fun r28 u28 H locs h28 hP hD hS => ?_)
        subst h28
        have hP : va_P D vwCl ((t_, .inr (3, [.int (nI K), .ref rk_, .ref ro_, .ref rc_, .ref al_, .int (nI n)])) :: (rk_, .inl (cI, 40, .inl (nf kn))) :: (ro_, .inl (cG, 40, .inr (.inr (.inr (.inr (og ar)))))) :: (rc_, .inl (cG, 40, .inr (.inr (.inr (.inr (og ac)))))) :: (al_, .inl (cI, 7, .inl (nf al))) :: (pr cI ar M ++ (pq cI ac C ++ R))) H := hP
        have hD : va_D A ((t_, .inr (3, [.int (nI K), .ref rk_, .ref ro_, .ref rc_, .ref al_, .int (nI n)])) :: (rk_, .inl (cI, 40, .inl (nf kn))) :: (ro_, .inl (cG, 40, .inr (.inr (.inr (.inr (og ar)))))) :: (rc_, .inl (cG, 40, .inr (.inr (.inr (.inr (og ac)))))) :: (al_, .inl (cI, 7, .inl (nf al))) :: (pr cI ar M ++ (pq cI ac C ++ R))) := hD
        refine lv_goto (tgt := 39) hx hb dX2_packedByte_31 (by decide) ?_
        subst hQe
        subst hAe
        subst hsz
        exact g_iret hx hb hr hlocks () (by first | exact pk_ng c11 | exact pk_ou hn c16 | exact pk_lo hn hj2 | exact pk_hi hn hj2) hP hK hD hS dX2_packedByte_39
    · skip
      refine lv_iconst (v := -1) hx hb dX2_packedByte_19 (by decide) ?_
      subst hQe
      subst hAe
      subst hsz
      exact g_iret hx hb hr hlocks () (by first | exact pk_ng c11 | exact pk_ou hn c16 | exact pk_lo hn hj2 | exact pk_hi hn hj2) hP hK hD hS dX2_packedByte_20
abbrev rX2_fits : Room := { frames := 0, cells := 0, slots := 0, locals := 0 }
set_option maxHeartbeats 4000000 in
set_option maxRecDepth 100000 in
theorem c_X2_fits (l : Launch) (D : va_G) (cI cJ cG : ClassId) (sz : Nat) (R : va_W) (t_ rk_ ro_ rc_ al_ : Nat) (ar ac : Nat → Nat) (K n : Nat) (kn : Nat → Nat) (M C : Nat → Nat → Nat) (al : Nat → Nat) (fd_ : Nat) (F : Nat → Nat) (len : Nat) (hlen : len ≤ 400) (hKb : K ≤ 255) (hF : ∀ k, F k ≤ 255) : Met l yX2_fits wsX2_fits rX2_fits (gP D (tyl cI cJ cG) [.ref t_, .ref fd_, .int (nI len)] ((t_, .inr (3, [.int (nI K), .ref rk_, .ref ro_, .ref rc_, .ref al_, .int (nI n)])) :: (rk_, .inl (cI, 40, .inl (nf kn))) :: (ro_, .inl (cG, 40, .inr (.inr (.inr (.inr (og ar)))))) :: (rc_, .inl (cG, 40, .inr (.inr (.inr (.inr (og ac)))))) :: (al_, .inl (cI, 7, .inl (nf al))) :: (fd_, .inl (cI, 400, .inl (nf F))) :: (pr cI ar M ++ (pq cI ac C ++ R))) sz) (gQi D (tyl cI cJ cG) ((t_, .inr (3, [.int (nI K), .ref rk_, .ref ro_, .ref rc_, .ref al_, .int (nI n)])) :: (rk_, .inl (cI, 40, .inl (nf kn))) :: (ro_, .inl (cG, 40, .inr (.inr (.inr (.inr (og ar)))))) :: (rc_, .inl (cG, 40, .inr (.inr (.inr (.inr (og ac)))))) :: (al_, .inl (cI, 7, .inl (nf al))) :: (fd_, .inl (cI, 400, .inl (nf F))) :: (pr cI ar M ++ (pq cI ac C ++ R))) sz (fun r (_ : Unit) => (r = 1 ∧ fitP K F len) ∨ (r = 0 ∧ ¬ fitP K F len)) (fun _ => ((t_, .inr (3, [.int (nI K), .ref rk_, .ref ro_, .ref rc_, .ref al_, .int (nI n)])) :: (rk_, .inl (cI, 40, .inl (nf kn))) :: (ro_, .inl (cG, 40, .inr (.inr (.inr (.inr (og ar)))))) :: (rc_, .inl (cG, 40, .inr (.inr (.inr (.inr (og ac)))))) :: (al_, .inl (cI, 7, .inl (nf al))) :: (fd_, .inl (cI, 400, .inl (nf F))) :: (pr cI ar M ++ (pq cI ac C ++ R))))) 0 0 (va_A ((t_, .inr (3, [.int (nI K), .ref rk_, .ref ro_, .ref rc_, .ref al_, .int (nI n)])) :: (rk_, .inl (cI, 40, .inl (nf kn))) :: (ro_, .inl (cG, 40, .inr (.inr (.inr (.inr (og ar)))))) :: (rc_, .inl (cG, 40, .inr (.inr (.inr (.inr (og ac)))))) :: (al_, .inl (cI, 7, .inl (nf al))) :: (fd_, .inl (cI, 400, .inl (nf F))) :: (pr cI ar M ++ (pq cI ac C ++ R))) sz) := by
  refine gMet (cc := cX2_fits) (maxL := 6) (ret := (some .boolean)) (ls0 := [(0, .ref t_), (1, .ref fd_), (2, .int (nI len))]) (by decide) rfl (Nat.le_of_ble_eq_true rfl) rfl ?_
  intro p e s m below meth c hx hb hr hts hown hlocks hml hname A hA hAe hsz Q hQe H locs hP hK hD hS ls hl
  have hown : s.vm.findClass RX2 = some m.cls := hown
  have in_X2 : ∀ w ∈ wsX20, w ∈ wsX2_fits := by decide +kernel
  have f_26 := hts (.fieldLink RX2 26 "SpectrumHeads$Table" "kinds" "I") (by decide +kernel)
  have hF0 := hF 0
  have hF1 := hF 1
  refine lv_iload_n hx hb dX2_fits_0 rfl (lv_at hl 2 rfl) ?_
  refine lv_iconst (v := 2) hx hb dX2_fits_1 (by decide) ?_
  refine lv_icmp_le (tgt := 23) hx hb dX2_fits_2 (by decide) (fun c2 => ?_) (fun c2 => ?_)
  · skip
    have hno : ¬ fitP K F len := fun h => by have := (nI_leI (b := 2) (by omega) (by omega)).mp c2; have := h.1; omega
    refine lv_iconst (v := 0) hx hb dX2_fits_23 (by decide) ?_
    subst hQe
    subst hAe
    subst hsz
    exact g_zret hx hb hr hlocks rfl () (by first | exact Or.inr ⟨rfl, hno⟩ | exact Or.inl ⟨rfl, hfit⟩) hP hK hD hS dX2_fits_24
  · skip
    have hl3 : 3 ≤ len := by have := mt (nI_leI (a := len) (b := 2) (by omega) (by omega)).mpr c2; omega
    refine lv_aload_n hx hb dX2_fits_5 rfl (lv_at hl 1 rfl) ?_
    refine lv_iconst (v := 0) hx hb dX2_fits_6 (by decide) ?_
    refine va_iald hx hb hK hP (5) 0 rfl rfl (vp_in_nI (n := 0) (by omega) (by omega)) dX2_fits_7 ?_
    refine lv_topi (fun x7 ex7 => ?_)
    obtain rfl : x7 = nI (F 0) := by exact ex7
    refine lv_aload_n hx hb dX2_fits_8 rfl (lv_at hl 0 rfl) ?_
    refine va_get (D := D) (ci := 3) (v := .int (nI K)) (C := RX2) (T := TX2) (N := 6) hx hb hts in_X2 hown hK hP 0 rfl rfl 0 (by decide) f_26 (fun _ h9 => h9) rfl dX2_fits_9 ?_
    refine lv_icmp_ne (tgt := 23) hx hb dX2_fits_12 (by decide) (fun c12 => ?_) (fun c12 => ?_)
    · skip
      have hno : ¬ fitP K F len := fun h => c12 (by rw [h.2.1])
      refine lv_iconst (v := 0) hx hb dX2_fits_23 (by decide) ?_
      subst hQe
      subst hAe
      subst hsz
      exact g_zret hx hb hr hlocks rfl () (by first | exact Or.inr ⟨rfl, hno⟩ | exact Or.inl ⟨rfl, hfit⟩) hP hK hD hS dX2_fits_24
    · skip
      have hf0 : F 0 = K := (nI_eq (by omega) (by omega)).mp c12
      refine lv_aload_n hx hb dX2_fits_15 rfl (lv_at hl 1 rfl) ?_
      refine lv_iconst (v := 1) hx hb dX2_fits_16 (by decide) ?_
      refine va_iald hx hb hK hP (5) 0 rfl rfl (vp_in_nI (n := 1) (by omega) (by omega)) dX2_fits_17 ?_
      refine lv_topi (fun x17 ex17 => ?_)
      obtain rfl : x17 = nI (F 1) := by exact ex17
      refine lv_bipush (v := 40) hx hb dX2_fits_18 (by decide) ?_
      refine lv_icmp_le (tgt := 25) hx hb dX2_fits_20 (by decide) (fun c20 => ?_) (fun c20 => ?_)
      · skip
        have hf1 : F 1 ≤ 40 := (nI_leI (b := 40) (by omega) (by omega)).mp c20
        refine lv_iconst (v := 2) hx hb dX2_fits_25 (by decide) ?_
        refine lv_bipush (v := 9) hx hb dX2_fits_26 (by decide) ?_
        refine lv_aload_n hx hb dX2_fits_28 rfl (lv_at hl 1 rfl) ?_
        refine lv_iconst (v := 1) hx hb dX2_fits_29 (by decide) ?_
        refine va_iald hx hb hK hP (5) 0 rfl rfl (vp_in_nI (n := 1) (by omega) (by omega)) dX2_fits_30 ?_
        refine lv_topi (fun x30 ex30 => ?_)
        obtain rfl : x30 = nI (F 1) := by exact ex30
        refine lv_imul hx hb dX2_fits_31 ?_
        refine lv_topi (fun x31 ex31 => ?_)
        obtain rfl : x31 = nI (9 * F 1) := by rw [ex31]; exact pk_mul 9 _
        refine lv_iadd hx hb dX2_fits_32 ?_
        refine lv_topi (fun x32 ex32 => ?_)
        obtain rfl : x32 = nI (2 + 9 * F 1) := by rw [ex32]; exact nI_add 2 _
        refine lv_istore_n (lv' := [(3, .int (nI (2 + 9 * F 1))), (0, .ref t_), (1, .ref fd_), (2, .int (nI len))]) hx hb dX2_fits_33 rfl hl (by decide) rfl (fun ls hl => ?_)
        refine lv_iload_n hx hb dX2_fits_34 rfl (lv_at hl 3 rfl) ?_
        refine lv_iload_n hx hb dX2_fits_35 rfl (lv_at hl 0 rfl) ?_
        refine lv_iconst (v := 1) hx hb dX2_fits_36 (by decide) ?_
        refine lv_iadd hx hb dX2_fits_37 ?_
        refine lv_topi (fun x37 ex37 => ?_)
        obtain rfl : x37 = nI (2 + 9 * F 1 + 1) := by rw [ex37]; exact nI_1 _
        refine lv_icmp_eq (tgt := 43) hx hb dX2_fits_38 (by decide) (fun c38 => ?_) (fun c38 => ?_)
        · skip
          have hle : len = 3 + 9 * F 1 := by have := (nI_eq (by omega) (by omega)).mp c38; omega
          refine lv_iconst (v := 0) hx hb dX2_fits_43 (by decide) ?_
          refine lv_istore (lv' := [(4, .int 0), (3, .int (nI (2 + 9 * F 1))), (0, .ref t_), (1, .ref fd_), (2, .int (nI len))]) hx hb dX2_fits_44 hl (by decide) rfl (fun ls hl => ?_)
          refine lv_iconst (v := 0) hx hb dX2_fits_46 (by decide) ?_
          refine lv_istore (lv' := [(5, .int 0), (4, .int 0), (3, .int (nI (2 + 9 * F 1))), (0, .ref t_), (1, .ref fd_), (2, .int (nI len))]) hx hb dX2_fits_47 hl (by decide) rfl (fun ls hl => ?_)
          have L_49 : ∀ (n_49 : Nat) (i : Nat) (hi : i ≤ 2 + 9 * F 1) (hk : ∀ t, 2 + 9 * t < i → F (2 + 9 * t) < K), 2 + 9 * F 1 - i < n_49 → ∀ (H : Heap) (locs : List Loc) (ls : Array Slot), va_P D vwCl ((t_, .inr (3, [.int (nI K), .ref rk_, .ref ro_, .ref rc_, .ref al_, .int (nI n)])) :: (rk_, .inl (cI, 40, .inl (nf kn))) :: (ro_, .inl (cG, 40, .inr (.inr (.inr (.inr (og ar)))))) :: (rc_, .inl (cG, 40, .inr (.inr (.inr (.inr (og ac)))))) :: (al_, .inl (cI, 7, .inl (nf al))) :: (fd_, .inl (cI, 400, .inl (nf F))) :: (pr cI ar M ++ (pq cI ac C ++ R))) H → va_D A ((t_, .inr (3, [.int (nI K), .ref rk_, .ref ro_, .ref rc_, .ref al_, .int (nI n)])) :: (rk_, .inl (cI, 40, .inl (nf kn))) :: (ro_, .inl (cG, 40, .inr (.inr (.inr (.inr (og ar)))))) :: (rc_, .inl (cG, 40, .inr (.inr (.inr (.inr (og ac)))))) :: (al_, .inl (cI, 7, .inl (nf al))) :: (fd_, .inl (cI, 400, .inl (nf F))) :: (pr cI ar M ++ (pq cI ac C ++ R))) → va_S A s.heap H locs → lv_has ls 6 [(5, .int (nI i)), (4, .int (nI (sumN F i))), (3, .int (nI (2 + 9 * F 1))), (0, .ref t_), (1, .ref fd_), (2, .int (nI len))] → W p l e (headSpec wsX2_fits rX2_fits).room s m ([.ref t_, .ref fd_, .int (nI len)] : List Value).toArray below meth c H locs 0 0 Q (F0 m 49 ls []) := by
            intro n_49
            induction n_49 with
            | zero => intro i hi hk hn_; exact absurd hn_ (Nat.not_lt_zero _)
            | succ n_49 ih_49 =>
              intro i hi hk hn_49 H locs ls hP hD hS hl
              refine lv_iload hx hb dX2_fits_49 (lv_at hl 0 rfl) ?_
              refine lv_iload_n hx hb dX2_fits_51 rfl (lv_at hl 2 rfl) ?_
              refine lv_icmp_ge (tgt := 99) hx hb dX2_fits_52 (by decide) (fun c52 => ?_) (fun c52 => ?_)
              · skip
                have hE52 := lp_e (n := (2 + 9 * F 1)) c52 hi
                subst hE52
                have hsb := sumN_le hF (2 + 9 * F 1)
                refine lv_aload_n hx hb dX2_fits_99 rfl (lv_at hl 4 rfl) ?_
                refine lv_iload_n hx hb dX2_fits_100 rfl (lv_at hl 2 rfl) ?_
                refine va_iald hx hb hK hP (5) 0 rfl rfl (by first | exact vp_in_nI (by omega) (by omega) | assumption) dX2_fits_101 ?_
                refine lv_topi (fun x101 ex101 => ?_)
                rw [nI_clamp (by omega)] at ex101
                obtain rfl : x101 = nI (F (2 + 9 * F 1)) := by exact ex101
                refine lv_iload hx hb dX2_fits_102 (lv_at hl 1 rfl) ?_
                refine lv_sipush (v := 256) hx hb dX2_fits_104 (by decide) ?_
                refine lv_irem hx hb dX2_fits_107 (by decide) ?_
                refine lv_topi (fun x107 ex107 => ?_)
                obtain rfl : x107 = nI (sumN F (2 + 9 * F 1) % 256) := by rw [ex107]; exact pk_rem (d := 256) (by omega) (by omega) (by omega)
                refine lv_icmp_ne (tgt := 115) hx hb dX2_fits_108 (by decide) (fun c108 => ?_) (fun c108 => ?_)
                · skip
                  have hno : ¬ fitP K F len := fun h => c108 (congrArg nI h.2.2.2.2.2)
                  refine lv_iconst (v := 0) hx hb dX2_fits_115 (by decide) ?_
                  subst hQe
                  subst hAe
                  subst hsz
                  exact g_zret hx hb hr hlocks rfl () (by first | exact Or.inr ⟨rfl, hno⟩ | exact Or.inl ⟨rfl, hfit⟩) hP hK hD hS dX2_fits_116
                · skip
                  have hFe := hF (2 + 9 * F 1)
                  have hfit : fitP K F len := ⟨hl3, hf0, hf1, hle, fun t ht => hk t (by omega), (nI_eq (by omega) (by omega)).mp c108⟩
                  refine lv_iconst (v := 1) hx hb dX2_fits_111 (by decide) ?_
                  refine lv_goto (tgt := 116) hx hb dX2_fits_112 (by decide) ?_
                  subst hQe
                  subst hAe
                  subst hsz
                  exact g_zret hx hb hr hlocks rfl () (by first | exact Or.inr ⟨rfl, hno⟩ | exact Or.inl ⟨rfl, hfit⟩) hP hK hD hS dX2_fits_116
              · skip
                have hi8 := lp_l (n := (2 + 9 * F 1)) c52 hi
                have hFi := hF i
                refine lv_iload hx hb dX2_fits_55 (lv_at hl 0 rfl) ?_
                refine lv_iconst (v := 2) hx hb dX2_fits_57 (by decide) ?_
                refine lv_icmp_lt (tgt := 84) hx hb dX2_fits_58 (by decide) (fun c58 => ?_) (fun c58 => ?_)
                · skip
                  have hki : ∀ t, 2 + 9 * t = i → F (2 + 9 * t) < K := fun t ht => by have := (nI_ltI (b := 2) (by omega) (by omega)).mp c58; omega
                  refine lv_iload hx hb dX2_fits_84 (lv_at hl 1 rfl) ?_
                  refine lv_aload_n hx hb dX2_fits_86 rfl (lv_at hl 4 rfl) ?_
                  refine lv_iload hx hb dX2_fits_87 (lv_at hl 0 rfl) ?_
                  refine va_iald hx hb hK hP (5) 0 rfl rfl (by first | exact vp_in_nI (by omega) (by omega) | assumption) dX2_fits_89 ?_
                  refine lv_topi (fun x89 ex89 => ?_)
                  rw [nI_clamp (by omega)] at ex89
                  obtain rfl : x89 = nI (F i) := by exact ex89
                  refine lv_iadd hx hb dX2_fits_90 ?_
                  refine lv_topi (fun x90 ex90 => ?_)
                  obtain rfl : x90 = nI (sumN F (i + 1)) := by rw [ex90]; exact nI_add _ _
                  refine lv_istore (lv' := [(4, .int (nI (sumN F (i + 1)))), (5, .int (nI i)), (3, .int (nI (2 + 9 * F 1))), (0, .ref t_), (1, .ref fd_), (2, .int (nI len))]) hx hb dX2_fits_91 hl (by decide) rfl (fun ls hl => ?_)
                  obtain ⟨x93, ex93⟩ : ∃ y : Int32, y = (nI i) + 1 := ⟨_, rfl⟩
                  refine lv_iinc (v := x93) (lv' := [(5, .int x93), (4, .int (nI (sumN F (i + 1)))), (3, .int (nI (2 + 9 * F 1))), (0, .ref t_), (1, .ref fd_), (2, .int (nI len))]) hx hb dX2_fits_93 hl (k := 1) rfl (by rw [ex93]; rfl) (by decide) rfl (fun ls hl => ?_)
                  obtain rfl : x93 = nI (i + 1) := by rw [ex93]; exact nI_1 _
                  refine lv_goto (tgt := 49) hx hb dX2_fits_96 (by decide) ?_
                  exact ih_49 (i + 1) (by omega) (fun t ht => (Nat.lt_or_ge (2 + 9 * t) i).elim (fun h => hk t h) (fun h => hki t (by omega))) (by omega) H locs ls hP hD hS (lv_sub hl [0, 1, 2, 3, 4, 5] rfl)
                · skip
                  have h58 : 2 ≤ i := by have := mt (nI_ltI (a := i) (b := 2) (by omega) (by omega)).mpr c58; omega
                  refine lv_iload hx hb dX2_fits_61 (lv_at hl 0 rfl) ?_
                  refine lv_iconst (v := 2) hx hb dX2_fits_63 (by decide) ?_
                  refine lv_isub hx hb dX2_fits_64 ?_
                  refine lv_topi (fun x64 ex64 => ?_)
                  obtain rfl : x64 = nI (i - 2) := by rw [ex64]; exact pk_sub (b := 2) (by omega)
                  refine lv_bipush (v := 9) hx hb dX2_fits_65 (by decide) ?_
                  refine lv_irem hx hb dX2_fits_67 (by decide) ?_
                  refine lv_topi (fun x67 ex67 => ?_)
                  obtain rfl : x67 = nI ((i - 2) % 9) := by rw [ex67]; exact pk_rem (d := 9) (by omega) (by omega) (by omega)
                  refine lv_if_ne (tgt := 84) hx hb dX2_fits_68 (by decide) (fun c68 => ?_) (fun c68 => ?_)
                  · skip
                    have hki : ∀ t, 2 + 9 * t = i → F (2 + 9 * t) < K := fun t ht => absurd (show nI ((i - 2) % 9) = 0 by rw [show (i - 2) % 9 = 0 by omega]; rfl) c68
                    refine lv_iload hx hb dX2_fits_84 (lv_at hl 1 rfl) ?_
                    refine lv_aload_n hx hb dX2_fits_86 rfl (lv_at hl 4 rfl) ?_
                    refine lv_iload hx hb dX2_fits_87 (lv_at hl 0 rfl) ?_
                    refine va_iald hx hb hK hP (5) 0 rfl rfl (by first | exact vp_in_nI (by omega) (by omega) | assumption) dX2_fits_89 ?_
                    refine lv_topi (fun x89 ex89 => ?_)
                    rw [nI_clamp (by omega)] at ex89
                    obtain rfl : x89 = nI (F i) := by exact ex89
                    refine lv_iadd hx hb dX2_fits_90 ?_
                    refine lv_topi (fun x90 ex90 => ?_)
                    obtain rfl : x90 = nI (sumN F (i + 1)) := by rw [ex90]; exact nI_add _ _
                    refine lv_istore (lv' := [(4, .int (nI (sumN F (i + 1)))), (5, .int (nI i)), (3, .int (nI (2 + 9 * F 1))), (0, .ref t_), (1, .ref fd_), (2, .int (nI len))]) hx hb dX2_fits_91 hl (by decide) rfl (fun ls hl => ?_)
                    obtain ⟨x93, ex93⟩ : ∃ y : Int32, y = (nI i) + 1 := ⟨_, rfl⟩
                    refine lv_iinc (v := x93) (lv' := [(5, .int x93), (4, .int (nI (sumN F (i + 1)))), (3, .int (nI (2 + 9 * F 1))), (0, .ref t_), (1, .ref fd_), (2, .int (nI len))]) hx hb dX2_fits_93 hl (k := 1) rfl (by rw [ex93]; rfl) (by decide) rfl (fun ls hl => ?_)
                    obtain rfl : x93 = nI (i + 1) := by rw [ex93]; exact nI_1 _
                    refine lv_goto (tgt := 49) hx hb dX2_fits_96 (by decide) ?_
                    exact ih_49 (i + 1) (by omega) (fun t ht => (Nat.lt_or_ge (2 + 9 * t) i).elim (fun h => hk t h) (fun h => hki t (by omega))) (by omega) H locs ls hP hD hS (lv_sub hl [0, 1, 2, 3, 4, 5] rfl)
                  · skip
                    have h68 : (i - 2) % 9 = 0 := (nI_eq (b := 0) (by omega) (by omega)).mp c68
                    refine lv_aload_n hx hb dX2_fits_71 rfl (lv_at hl 4 rfl) ?_
                    refine lv_iload hx hb dX2_fits_72 (lv_at hl 0 rfl) ?_
                    refine va_iald hx hb hK hP (5) 0 rfl rfl (by first | exact vp_in_nI (by omega) (by omega) | assumption) dX2_fits_74 ?_
                    refine lv_topi (fun x74 ex74 => ?_)
                    rw [nI_clamp (by omega)] at ex74
                    obtain rfl : x74 = nI (F i) := by exact ex74
                    refine lv_aload_n hx hb dX2_fits_75 rfl (lv_at hl 3 rfl) ?_
                    refine va_get (D := D) (ci := 3) (v := .int (nI K)) (C := RX2) (T := TX2) (N := 6) hx hb hts in_X2 hown hK hP 0 rfl rfl 0 (by decide) f_26 (fun _ h9 => h9) rfl dX2_fits_76 ?_
                    refine lv_icmp_lt (tgt := 84) hx hb dX2_fits_79 (by decide) (fun c79 => ?_) (fun c79 => ?_)
                    · skip
                      have hki : ∀ t, 2 + 9 * t = i → F (2 + 9 * t) < K := fun t ht => by rw [ht]; exact (nI_ltI (by omega) (by omega)).mp c79
                      refine lv_iload hx hb dX2_fits_84 (lv_at hl 1 rfl) ?_
                      refine lv_aload_n hx hb dX2_fits_86 rfl (lv_at hl 4 rfl) ?_
                      refine lv_iload hx hb dX2_fits_87 (lv_at hl 0 rfl) ?_
                      refine va_iald hx hb hK hP (5) 0 rfl rfl (by first | exact vp_in_nI (by omega) (by omega) | assumption) dX2_fits_89 ?_
                      refine lv_topi (fun x89 ex89 => ?_)
                      rw [nI_clamp (by omega)] at ex89
                      obtain rfl : x89 = nI (F i) := by exact ex89
                      refine lv_iadd hx hb dX2_fits_90 ?_
                      refine lv_topi (fun x90 ex90 => ?_)
                      obtain rfl : x90 = nI (sumN F (i + 1)) := by rw [ex90]; exact nI_add _ _
                      refine lv_istore (lv' := [(4, .int (nI (sumN F (i + 1)))), (5, .int (nI i)), (3, .int (nI (2 + 9 * F 1))), (0, .ref t_), (1, .ref fd_), (2, .int (nI len))]) hx hb dX2_fits_91 hl (by decide) rfl (fun ls hl => ?_)
                      obtain ⟨x93, ex93⟩ : ∃ y : Int32, y = (nI i) + 1 := ⟨_, rfl⟩
                      refine lv_iinc (v := x93) (lv' := [(5, .int x93), (4, .int (nI (sumN F (i + 1)))), (3, .int (nI (2 + 9 * F 1))), (0, .ref t_), (1, .ref fd_), (2, .int (nI len))]) hx hb dX2_fits_93 hl (k := 1) rfl (by rw [ex93]; rfl) (by decide) rfl (fun ls hl => ?_)
                      obtain rfl : x93 = nI (i + 1) := by rw [ex93]; exact nI_1 _
                      refine lv_goto (tgt := 49) hx hb dX2_fits_96 (by decide) ?_
                      exact ih_49 (i + 1) (by omega) (fun t ht => (Nat.lt_or_ge (2 + 9 * t) i).elim (fun h => hk t h) (fun h => hki t (by omega))) (by omega) H locs ls hP hD hS (lv_sub hl [0, 1, 2, 3, 4, 5] rfl)
                    · skip
                      have hno : ¬ fitP K F len := fun h => c79 ((nI_ltI (by omega) (by omega)).mpr (by have := h.2.2.2.2.1 ((i - 2) / 9) (by omega); rw [show 2 + 9 * ((i - 2) / 9) = i by omega] at this; exact this))
                      refine lv_iconst (v := 0) hx hb dX2_fits_82 (by decide) ?_
                      subst hQe
                      subst hAe
                      subst hsz
                      exact g_zret hx hb hr hlocks rfl () (by first | exact Or.inr ⟨rfl, hno⟩ | exact Or.inl ⟨rfl, hfit⟩) hP hK hD hS dX2_fits_83
          exact L_49 _ 0 (Nat.zero_le _) (fun t h => absurd h (Nat.not_lt_zero _)) (Nat.lt_succ_self _) H locs ls hP hD hS (lv_sub hl [0, 1, 2, 3, 4, 5] rfl)
        · skip
          have hno : ¬ fitP K F len := fun h => c38 (congrArg nI (by have := h.2.2.2.1; omega))
          refine lv_iconst (v := 0) hx hb dX2_fits_41 (by decide) ?_
          subst hQe
          subst hAe
          subst hsz
          exact g_zret hx hb hr hlocks rfl () (by first | exact Or.inr ⟨rfl, hno⟩ | exact Or.inl ⟨rfl, hfit⟩) hP hK hD hS dX2_fits_42
      · skip
        have hno : ¬ fitP K F len := fun h => c20 ((nI_leI (b := 40) (by omega) (by omega)).mpr h.2.2.1)
        refine lv_iconst (v := 0) hx hb dX2_fits_23 (by decide) ?_
        subst hQe
        subst hAe
        subst hsz
        exact g_zret hx hb hr hlocks rfl () (by first | exact Or.inr ⟨rfl, hno⟩ | exact Or.inl ⟨rfl, hfit⟩) hP hK hD hS dX2_fits_24
abbrev rX2_load : Room := { frames := 2, cells := 0, slots := 0, locals := 84 }
set_option maxHeartbeats 4000000 in
set_option maxRecDepth 100000 in
theorem c_X2_load (l : Launch) (D : va_G) (cI cJ cG : ClassId) (sz : Nat) (R : va_W) (t_ rk_ ro_ rc_ al_ : Nat) (ar ac : Nat → Nat) (K n : Nat) (kn : Nat → Nat) (M C : Nat → Nat → Nat) (al : Nat → Nat) (fd_ : Nat) (F : Nat → Nat) (hf1 : F 1 ≤ 40) (hF : ∀ k, F k ≤ 255) (hM : ∀ i k, M i k ≤ 255) : Met l yX2_load wsX2_load rX2_load (gP D (tyl cI cJ cG) [.ref t_, .ref fd_] ((t_, .inr (3, [.int (nI K), .ref rk_, .ref ro_, .ref rc_, .ref al_, .int (nI n)])) :: (rk_, .inl (cI, 40, .inl (nf kn))) :: (ro_, .inl (cG, 40, .inr (.inr (.inr (.inr (og ar)))))) :: (rc_, .inl (cG, 40, .inr (.inr (.inr (.inr (og ac)))))) :: (al_, .inl (cI, 7, .inl (nf al))) :: (fd_, .inl (cI, 400, .inl (nf F))) :: (pr cI ar M ++ (pq cI ac C ++ R))) sz) (gQv D (tyl cI cJ cG) ((t_, .inr (3, [.int (nI K), .ref rk_, .ref ro_, .ref rc_, .ref al_, .int (nI n)])) :: (rk_, .inl (cI, 40, .inl (nf kn))) :: (ro_, .inl (cG, 40, .inr (.inr (.inr (.inr (og ar)))))) :: (rc_, .inl (cG, 40, .inr (.inr (.inr (.inr (og ac)))))) :: (al_, .inl (cI, 7, .inl (nf al))) :: (fd_, .inl (cI, 400, .inl (nf F))) :: (pr cI ar M ++ (pq cI ac C ++ R))) sz (fun (_ : Unit) => True) (fun _ => ((t_, .inr (3, [.int (nI K), .ref rk_, .ref ro_, .ref rc_, .ref al_, .int (nI (F 1))])) :: (rk_, .inl (cI, 40, .inl (nf (fu (ldK F) kn (F 1))))) :: (ro_, .inl (cG, 40, .inr (.inr (.inr (.inr (og ar)))))) :: (rc_, .inl (cG, 40, .inr (.inr (.inr (.inr (og ac)))))) :: (al_, .inl (cI, 7, .inl (nf al))) :: (fd_, .inl (cI, 400, .inl (nf F))) :: (pr cI ar (fu (ldM F M) M (F 1)) ++ (pq cI ac (fu (ldC F M C) C (F 1)) ++ R))))) 0 0 (va_A ((t_, .inr (3, [.int (nI K), .ref rk_, .ref ro_, .ref rc_, .ref al_, .int (nI n)])) :: (rk_, .inl (cI, 40, .inl (nf kn))) :: (ro_, .inl (cG, 40, .inr (.inr (.inr (.inr (og ar)))))) :: (rc_, .inl (cG, 40, .inr (.inr (.inr (.inr (og ac)))))) :: (al_, .inl (cI, 7, .inl (nf al))) :: (fd_, .inl (cI, 400, .inl (nf F))) :: (pr cI ar M ++ (pq cI ac C ++ R))) sz) := by
  refine gMet (cc := cX2_load) (maxL := 4) (ret := none) (ls0 := [(0, .ref t_), (1, .ref fd_)]) (by decide) rfl (Nat.le_of_ble_eq_true rfl) rfl ?_
  intro p e s m below meth c hx hb hr hts hown hlocks hml hname A hA hAe hsz Q hQe H locs hP hK hD hS ls hl
  have hown : s.vm.findClass RX2 = some m.cls := hown
  have in_X2 : ∀ w ∈ wsX20, w ∈ wsX2_load := by decide +kernel
  have f_30 := hts (.fieldLink RX2 30 "SpectrumHeads$Table" "count" "I") (by decide +kernel)
  refine lv_aload_n hx hb dX2_load_0 rfl (lv_at hl 0 rfl) ?_
  refine lv_bipush (v := 40) hx hb dX2_load_1 (by decide) ?_
  refine lv_aload_n hx hb dX2_load_3 rfl (lv_at hl 1 rfl) ?_
  refine lv_iconst (v := 1) hx hb dX2_load_4 (by decide) ?_
  refine va_iald hx hb hK hP (5) 0 rfl rfl (vp_in_nI (n := 1) (by omega) (by omega)) dX2_load_5 ?_
  refine lv_topi (fun x5 ex5 => ?_)
  obtain rfl : x5 = nI (F 1) := by exact ex5
  refine va_mmin hx hb (by rw [hml]; exact hl.1.symm) hown (hts (.methodLink RX2 63 Lib.Math.min.name) (by decide +kernel)) (hts (.static Lib.Math.min.name) (by decide +kernel)) (hts (.initialized "java/lang/Math") (by decide +kernel)) (hts (.code Lib.Math.min.name Lib.Math.min.code 2 (some .int)) (by decide +kernel)) (Nat.le_of_ble_eq_true rfl) (Nat.le_of_ble_eq_true rfl) (Nat.zero_le _) (Nat.zero_le _) dX2_load_6 ?_
  refine lv_topi (fun x6 ex6 => ?_)
  obtain rfl : x6 = nI (F 1) := by rw [ex6]; exact min40 hf1
  refine va_put (D := D) (ci := 3) (v := .int (nI (F 1))) (ty := .int) (C := RX2) (T := TX2) (N := 6) hx hb hts in_X2 tyX2 tyX2_ok nmX2 hown hK hP hD hS 0 rfl rfl 5 (by decide) f_30 (fun _ h9 => h9) rfl (by decide +kernel) rfl rfl (Nat.le_of_ble_eq_true rfl) dX2_load_9 (fun H locs hP hD hS => ?_)
  have hP : va_P D vwCl ((t_, .inr (3, [.int (nI K), .ref rk_, .ref ro_, .ref rc_, .ref al_, .int (nI (F 1))])) :: (rk_, .inl (cI, 40, .inl (nf kn))) :: (ro_, .inl (cG, 40, .inr (.inr (.inr (.inr (og ar)))))) :: (rc_, .inl (cG, 40, .inr (.inr (.inr (.inr (og ac)))))) :: (al_, .inl (cI, 7, .inl (nf al))) :: (fd_, .inl (cI, 400, .inl (nf F))) :: (pr cI ar M ++ (pq cI ac C ++ R))) H := hP
  have hD : va_D A ((t_, .inr (3, [.int (nI K), .ref rk_, .ref ro_, .ref rc_, .ref al_, .int (nI (F 1))])) :: (rk_, .inl (cI, 40, .inl (nf kn))) :: (ro_, .inl (cG, 40, .inr (.inr (.inr (.inr (og ar)))))) :: (rc_, .inl (cG, 40, .inr (.inr (.inr (.inr (og ac)))))) :: (al_, .inl (cI, 7, .inl (nf al))) :: (fd_, .inl (cI, 400, .inl (nf F))) :: (pr cI ar M ++ (pq cI ac C ++ R))) := hD
  rw [← fu_0 (g := ldK F) (f := kn), ← fu_0 (g := ldC F M C) (f := C), ← fu_0 (g := ldM F M) (f := M)] at hP hD
  refine lv_iconst (v := 0) hx hb dX2_load_12 (by decide) ?_
  refine lv_istore_n (lv' := [(2, .int 0), (0, .ref t_), (1, .ref fd_)]) hx hb dX2_load_13 rfl hl (by decide) rfl (fun ls hl => ?_)
  have L_14 : ∀ (n_14 : Nat) (i : Nat) (hi : i ≤ F 1), F 1 - i < n_14 → ∀ (H : Heap) (locs : List Loc) (ls : Array Slot), va_P D vwCl ((t_, .inr (3, [.int (nI K), .ref rk_, .ref ro_, .ref rc_, .ref al_, .int (nI (F 1))])) :: (rk_, .inl (cI, 40, .inl (nf (fu (ldK F) kn i)))) :: (ro_, .inl (cG, 40, .inr (.inr (.inr (.inr (og ar)))))) :: (rc_, .inl (cG, 40, .inr (.inr (.inr (.inr (og ac)))))) :: (al_, .inl (cI, 7, .inl (nf al))) :: (fd_, .inl (cI, 400, .inl (nf F))) :: (pr cI ar (fu (ldM F M) M i) ++ (pq cI ac (fu (ldC F M C) C i) ++ R))) H → va_D A ((t_, .inr (3, [.int (nI K), .ref rk_, .ref ro_, .ref rc_, .ref al_, .int (nI (F 1))])) :: (rk_, .inl (cI, 40, .inl (nf (fu (ldK F) kn i)))) :: (ro_, .inl (cG, 40, .inr (.inr (.inr (.inr (og ar)))))) :: (rc_, .inl (cG, 40, .inr (.inr (.inr (.inr (og ac)))))) :: (al_, .inl (cI, 7, .inl (nf al))) :: (fd_, .inl (cI, 400, .inl (nf F))) :: (pr cI ar (fu (ldM F M) M i) ++ (pq cI ac (fu (ldC F M C) C i) ++ R))) → va_S A s.heap H locs → lv_has ls 4 [(2, .int (nI i)), (0, .ref t_), (1, .ref fd_)] → W p l e (headSpec wsX2_load rX2_load).room s m ([.ref t_, .ref fd_] : List Value).toArray below meth c H locs 0 0 Q (F0 m 14 ls []) := by
    intro n_14
    induction n_14 with
    | zero => intro i hi hn_; exact absurd hn_ (Nat.not_lt_zero _)
    | succ n_14 ih_14 =>
      intro i hi hn_14 H locs ls hP hD hS hl
      refine lv_iload_n hx hb dX2_load_14 rfl (lv_at hl 0 rfl) ?_
      refine lv_aload_n hx hb dX2_load_15 rfl (lv_at hl 1 rfl) ?_
      refine va_get (D := D) (ci := 3) (v := .int (nI (F 1))) (C := RX2) (T := TX2) (N := 6) hx hb hts in_X2 hown hK hP 0 rfl rfl 5 (by decide) f_30 (fun _ h9 => h9) rfl dX2_load_16 ?_
      refine lv_icmp_ge (tgt := 47) hx hb dX2_load_19 (by decide) (fun c19 => ?_) (fun c19 => ?_)
      · skip
        have hE19 := lp_e (n := (F 1)) c19 hi
        subst hE19
        subst hQe
        subst hAe
        subst hsz
        exact g_vret hx hb hr hlocks () trivial hP hK hD hS dX2_load_47
      · skip
        have hi8 := lp_l (n := (F 1)) c19 hi
        refine lv_iconst (v := 2) hx hb dX2_load_22 (by decide) ?_
        refine lv_bipush (v := 9) hx hb dX2_load_23 (by decide) ?_
        refine lv_iload_n hx hb dX2_load_25 rfl (lv_at hl 0 rfl) ?_
        refine lv_imul hx hb dX2_load_26 ?_
        refine lv_topi (fun x26 ex26 => ?_)
        obtain rfl : x26 = nI (9 * i) := by rw [ex26]; exact pk_mul 9 _
        refine lv_iadd hx hb dX2_load_27 ?_
        refine lv_topi (fun x27 ex27 => ?_)
        obtain rfl : x27 = nI (2 + 9 * i) := by rw [ex27]; exact nI_add 2 _
        refine lv_istore_n (lv' := [(3, .int (nI (2 + 9 * i))), (2, .int (nI i)), (0, .ref t_), (1, .ref fd_)]) hx hb dX2_load_28 rfl hl (by decide) rfl (fun ls hl => ?_)
        refine lv_aload_n hx hb dX2_load_29 rfl (lv_at hl 2 rfl) ?_
        refine lv_iload_n hx hb dX2_load_30 rfl (lv_at hl 1 rfl) ?_
        refine lv_aload_n hx hb dX2_load_31 rfl (lv_at hl 3 rfl) ?_
        refine lv_iload_n hx hb dX2_load_32 rfl (lv_at hl 0 rfl) ?_
        refine va_iald hx hb hK hP (5) 0 rfl rfl (by first | exact vp_in_nI (by omega) (by omega) | assumption) dX2_load_33 ?_
        refine lv_topi (fun x33 ex33 => ?_)
        rw [nI_clamp (by omega)] at ex33
        obtain rfl : x33 = nI (F (2 + 9 * i)) := by exact ex33
        refine lv_aload_n hx hb dX2_load_34 rfl (lv_at hl 3 rfl) ?_
        refine lv_iload_n hx hb dX2_load_35 rfl (lv_at hl 0 rfl) ?_
        refine lv_iconst (v := 1) hx hb dX2_load_36 (by decide) ?_
        refine lv_iadd hx hb dX2_load_37 ?_
        refine lv_topi (fun x37 ex37 => ?_)
        obtain rfl : x37 = nI (2 + 9 * i + 1) := by rw [ex37]; exact nI_1 _
        refine gc_Vv (As := [.int (nI i), .int (nI (F (2 + 9 * i))), .ref fd_, .int (nI (2 + 9 * i + 1))]) (rest := []) (ci := 3) (q0 := 0) ⟨hx, hb, hml, hown, hts⟩ (c_X2_put l D cI cJ cG H.size R t_ rk_ ro_ rc_ al_ ar ac K (F 1) (fu (ldK F) kn i) (fu (ldM F M) M i) (fu (ldC F M C) C i) al fd_ 400 F i (F (2 + 9 * i)) (2 + 9 * i + 1) (by omega) (by omega) (by omega) (ldM_le hF hM i i) hF) (cwV 4 hts gX2_load_X2_put rfl rfl rfl (by decide +kernel) ⟨Nat.le_of_ble_eq_true rfl, Nat.le_of_ble_eq_true rfl⟩) rfl rfl rfl hK hP hD hS hA rfl hl.1 rfl (Nat.le_of_ble_eq_true rfl) dX2_load_38 ⟨Nat.le_of_ble_eq_true rfl, Nat.le_of_ble_eq_true rfl⟩ (fun u38 H locs h38 hP hD hS => ?_)
        have hP : va_P D vwCl ((t_, .inr (3, [.int (nI K), .ref rk_, .ref ro_, .ref rc_, .ref al_, .int (nI (F 1))])) :: (rk_, .inl (cI, 40, .inl (nf (un (fu (ldK F) kn i) i (F (2 + 9 * i)))))) :: (ro_, .inl (cG, 40, .inr (.inr (.inr (.inr (og ar)))))) :: (rc_, .inl (cG, 40, .inr (.inr (.inr (.inr (og ac)))))) :: (al_, .inl (cI, 7, .inl (nf al))) :: (fd_, .inl (cI, 400, .inl (nf F))) :: (pr cI ar (un (fu (ldM F M) M i) i (fu (fun k => F (2 + 9 * i + 1 + k)) (fu (ldM F M) M i i) 8)) ++ (pq cI ac (un (fu (ldC F M C) C i) i (fu (ceN (fu (fun k => F (2 + 9 * i + 1 + k)) (fu (ldM F M) M i i) 8)) (fu (ldC F M C) C i i) 7)) ++ R))) H := hP
        have hD : va_D A ((t_, .inr (3, [.int (nI K), .ref rk_, .ref ro_, .ref rc_, .ref al_, .int (nI (F 1))])) :: (rk_, .inl (cI, 40, .inl (nf (un (fu (ldK F) kn i) i (F (2 + 9 * i)))))) :: (ro_, .inl (cG, 40, .inr (.inr (.inr (.inr (og ar)))))) :: (rc_, .inl (cG, 40, .inr (.inr (.inr (.inr (og ac)))))) :: (al_, .inl (cI, 7, .inl (nf al))) :: (fd_, .inl (cI, 400, .inl (nf F))) :: (pr cI ar (un (fu (ldM F M) M i) i (fu (fun k => F (2 + 9 * i + 1 + k)) (fu (ldM F M) M i i) 8)) ++ (pq cI ac (un (fu (ldC F M C) C i) i (fu (ceN (fu (fun k => F (2 + 9 * i + 1 + k)) (fu (ldM F M) M i i) 8)) (fu (ldC F M C) C i i) 7)) ++ R))) := hD
        rw [show un (fu (ldK F) kn i) i (F (2 + 9 * i)) = fu (ldK F) kn (i + 1) from fu_s (g := ldK F), ldM_s, ldC_s] at hP hD
        have hP : va_P D vwCl ((t_, .inr (3, [.int (nI K), .ref rk_, .ref ro_, .ref rc_, .ref al_, .int (nI (F 1))])) :: (rk_, .inl (cI, 40, .inl (nf (fu (ldK F) kn (i + 1))))) :: (ro_, .inl (cG, 40, .inr (.inr (.inr (.inr (og ar)))))) :: (rc_, .inl (cG, 40, .inr (.inr (.inr (.inr (og ac)))))) :: (al_, .inl (cI, 7, .inl (nf al))) :: (fd_, .inl (cI, 400, .inl (nf F))) :: (pr cI ar (fu (ldM F M) M (i + 1)) ++ (pq cI ac (fu (ldC F M C) C (i + 1)) ++ R))) H := hP
        have hD : va_D A ((t_, .inr (3, [.int (nI K), .ref rk_, .ref ro_, .ref rc_, .ref al_, .int (nI (F 1))])) :: (rk_, .inl (cI, 40, .inl (nf (fu (ldK F) kn (i + 1))))) :: (ro_, .inl (cG, 40, .inr (.inr (.inr (.inr (og ar)))))) :: (rc_, .inl (cG, 40, .inr (.inr (.inr (.inr (og ac)))))) :: (al_, .inl (cI, 7, .inl (nf al))) :: (fd_, .inl (cI, 400, .inl (nf F))) :: (pr cI ar (fu (ldM F M) M (i + 1)) ++ (pq cI ac (fu (ldC F M C) C (i + 1)) ++ R))) := hD
        obtain ⟨x41, ex41⟩ : ∃ y : Int32, y = (nI i) + 1 := ⟨_, rfl⟩
        refine lv_iinc (v := x41) (lv' := [(2, .int x41), (3, .int (nI (2 + 9 * i))), (0, .ref t_), (1, .ref fd_)]) hx hb dX2_load_41 hl (k := 1) rfl (by rw [ex41]; rfl) (by decide) rfl (fun ls hl => ?_)
        obtain rfl : x41 = nI (i + 1) := by rw [ex41]; exact nI_1 _
        refine lv_goto (tgt := 14) hx hb dX2_load_44 (by decide) ?_
        exact ih_14 (i + 1) (by omega) (by omega) H locs ls hP hD hS (lv_sub hl [0, 2, 3] rfl)
  exact L_14 _ 0 (Nat.zero_le _) (Nat.lt_succ_self _) H locs ls hP hD hS (lv_sub hl [0, 1, 2] rfl)
