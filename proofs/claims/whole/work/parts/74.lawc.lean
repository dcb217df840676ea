section LAWC
variable {p : Program} {l : Launch} {e : Env} {s : State} {m : MethodId} {below : List Frame} {meth : Method} {c : Code} {H : Heap} {locs : List Loc} {cells slots : Nat} {Q : State → Prop} {ls : Array Slot} {D : va_G} {A : Nat → Prop} {cI cJ cG : ClassId} {b L i : Nat} {xs : Nat → Int32} {h_ c_ d_ w_ v_ t_ rk_ ro_ rc_ al_ b_ ka_ na_ jo_ me_ wo_ fd_ nr_ nc_ sc_ o_ m_ md_ mw_ mv_ mk_ mr_ mo_ mf_ mb_ mx_ mp_ : Nat} {ar ac : Nat → Nat} {K : Nat} {n : Nat} {dn : Nat → Nat} {wn : Nat → Nat} {vn : Nat → Nat} {tk : Int64} {kn : Nat → Nat} {M : Nat → Nat → Nat} {C : Nat → Nat → Nat} {al : Nat → Nat} {kd : Nat → Nat} {me : Nat → Nat} {px : Nat} {pcs : Nat} {bt : Bst} {wo : Nat → Int64} {le : Int64} {F : Nat → Nat} {fc : Nat} {nr : Nat → Nat} {nc : Nat → Nat} {sc : Nat → Nat} {ft : Nat} {rw : Nat → Nat} {lb : Nat → Nat} {ov : Nat → Int64}
set_option maxHeartbeats 4000000 in
set_option maxRecDepth 100000 in
theorem lc_wrong (hx : p.tables.exec = Jvm.exec) (hb : c.code = cL_law) (hml : c.maxLocals = 7) (hown : s.vm.findClass RL = some m.cls) (hts : ∀ w ∈ wsL_law, w.before #[Value.ref b] s = true) (hX : va_X b L xs s s.heap) (hbl : b < s.heap.size) (hbA : ¬ A b) (hA : ∀ q, s.heap.size ≤ q → A q) (hK : va_K D vwCl (tyl cI cJ cG) s) (hi : i + 4 < L) (hL : L ≤ 2561) (hLI : LI K n dn wn vn kn M C kd px pcs bt F fc nr nc rw lb) (hcs : cells + 1 ≤ 601024 ∧ slots + 6 ≤ 7293000) (hP : va_P D vwCl (hwW cI cJ cG (mwW cI cJ cG [(o_, .inl (cJ, 1, .inr (.inl ov)))] m_ md_ mw_ mv_ mk_ mr_ mo_ mf_ mb_ mx_ mp_ K n dn wn vn tk kn M wo le kd px F fc ft rw lb) h_ c_ d_ w_ v_ t_ rk_ ro_ rc_ al_ b_ ka_ na_ jo_ me_ wo_ fd_ nr_ nc_ sc_ ar ac K n dn wn vn tk kn M C al kd me px pcs bt wo le F fc nr nc sc) H) (hD : va_D A (hwW cI cJ cG (mwW cI cJ cG [(o_, .inl (cJ, 1, .inr (.inl ov)))] m_ md_ mw_ mv_ mk_ mr_ mo_ mf_ mb_ mx_ mp_ K n dn wn vn tk kn M wo le kd px F fc ft rw lb) h_ c_ d_ w_ v_ t_ rk_ ro_ rc_ al_ b_ ka_ na_ jo_ me_ wo_ fd_ nr_ nc_ sc_ ar ac K n dn wn vn tk kn M C al kd me px pcs bt wo le F fc nr nc sc)) (hS : va_S A s.heap H locs) (hl : lv_has ls 7 [(0, .ref b), (1, .ref h_), (2, .ref m_), (3, .ref o_), (4, .int (nI i))]) (kb : ∀ (n : Nat) (dn : Nat → Nat) (wn : Nat → Nat) (vn : Nat → Nat) (tk : Int64) (kn : Nat → Nat) (M : Nat → Nat → Nat) (C : Nat → Nat → Nat) (al : Nat → Nat) (kd : Nat → Nat) (me : Nat → Nat) (px : Nat) (pcs : Nat) (bt : Bst) (wo : Nat → Int64) (le : Int64) (F : Nat → Nat) (fc : Nat) (nr : Nat → Nat) (nc : Nat → Nat) (sc : Nat → Nat) (ft : Nat) (rw : Nat → Nat) (lb : Nat → Nat) (ov : Nat → Int64), LI K n dn wn vn kn M C kd px pcs bt F fc nr nc rw lb → ∀ (H : Heap) (locs : List Loc) (ls : Array Slot), va_P D vwCl (mwW cI cJ cG (hwW cI cJ cG [(o_, .inl (cJ, 1, .inr (.inl ov)))] h_ c_ d_ w_ v_ t_ rk_ ro_ rc_ al_ b_ ka_ na_ jo_ me_ wo_ fd_ nr_ nc_ sc_ ar ac K n dn wn vn tk kn M C al kd me px pcs bt wo le F fc nr nc sc) m_ md_ mw_ mv_ mk_ mr_ mo_ mf_ mb_ mx_ mp_ K n dn wn vn tk kn M wo le kd px F fc ft rw lb) H → va_D A (mwW cI cJ cG (hwW cI cJ cG [(o_, .inl (cJ, 1, .inr (.inl ov)))] h_ c_ d_ w_ v_ t_ rk_ ro_ rc_ al_ b_ ka_ na_ jo_ me_ wo_ fd_ nr_ nc_ sc_ ar ac K n dn wn vn tk kn M C al kd me px pcs bt wo le F fc nr nc sc) m_ md_ mw_ mv_ mk_ mr_ mo_ mf_ mb_ mx_ mp_ K n dn wn vn tk kn M wo le kd px F fc ft rw lb) → va_S A s.heap H locs → lv_has ls 7 [(0, .ref b), (1, .ref h_), (2, .ref m_), (3, .ref o_), (4, .int (nI i))] → W p l e room_1 s m #[Value.ref b] below meth c H locs (cells + 1) (slots + 6) Q (F0 m 847 ls [])) : W p l e room_1 s m #[Value.ref b] below meth c H locs cells slots Q (F0 m 585 ls []) := by
  have hc0 : cells + 0 ≤ room_1.cells := by show cells + 0 ≤ 601024; omega
  have hs0 : slots + 0 ≤ room_1.slots := by show slots + 0 ≤ 7293000; omega
  refine lv_aload_n hx hb dL_law_585 rfl (lv_at hl 1 rfl) ?_
  refine lv_aload_n hx hb dL_law_586 rfl (lv_at hl 0 rfl) ?_
  refine lv_iload hx hb dL_law_587 (lv_at hl 4 rfl) ?_
  refine lv_iconst (v := 1) hx hb dL_law_589 (by decide) ?_
  refine lv_iadd hx hb dL_law_590 ?_
  refine lv_topi (fun x590 ex590 => ?_)
  obtain rfl : x590 = nI (i + 1) := by rw [ex590]; exact nI_add i 1
  refine va_sld hx hb hX hbl hbA hS (vp_in_nI (by omega) (by omega)) dL_law_591 ?_
  refine lv_topi (fun x591 ex591 => ?_)
  obtain rfl : x591 = xs (i + 1) := by rw [ex591, nI_clamp (by omega)]
  refine lv_aload_n hx hb dL_law_592 rfl (lv_at hl 0 rfl) ?_
  refine lv_iload hx hb dL_law_593 (lv_at hl 4 rfl) ?_
  refine lv_iconst (v := 2) hx hb dL_law_595 (by decide) ?_
  refine lv_iadd hx hb dL_law_596 ?_
  refine lv_topi (fun x596 ex596 => ?_)
  obtain rfl : x596 = nI (i + 2) := by rw [ex596]; exact nI_add i 2
  refine va_sld hx hb hX hbl hbA hS (vp_in_nI (by omega) (by omega)) dL_law_597 ?_
  refine lv_topi (fun x597 ex597 => ?_)
  obtain rfl : x597 = xs (i + 2) := by rw [ex597, nI_clamp (by omega)]
  refine gc_Vl (As := [.int (xs (i + 1)), .int (xs (i + 2))]) (rest := []) (ci := 4) (q0 := 0) ⟨hx, hb, hml, hown, hts⟩ (c_X3_wrong l D cI cJ cG H.size (mwW cI cJ cG [(o_, .inl (cJ, 1, .inr (.inl ov)))] m_ md_ mw_ mv_ mk_ mr_ mo_ mf_ mb_ mx_ mp_ K n dn wn vn tk kn M wo le kd px F fc ft rw lb) h_ c_ d_ w_ v_ t_ rk_ ro_ rc_ al_ b_ ka_ na_ jo_ me_ wo_ fd_ nr_ nc_ sc_ ar ac K n dn wn vn tk kn M C al kd me px pcs bt wo le F fc nr nc sc (xs (i + 1)) (xs (i + 2)) hLI.h) (cwV 2 hts gL_law_X3_wrong rfl rfl rfl (by decide +kernel) ⟨Nat.le_of_ble_eq_true rfl, Nat.le_of_ble_eq_true rfl⟩) rfl rfl rfl hK hP hD hS hA rfl hl.1 rfl (Nat.le_of_ble_eq_true rfl) dL_law_598 ⟨hc0, hs0⟩ (fun r1 u1 H locs h1 hP hD hS => ?_)
  obtain ⟨al1, sc1⟩ := u1
  have hP : va_P D vwCl (hwW cI cJ cG (mwW cI cJ cG [(o_, .inl (cJ, 1, .inr (.inl ov)))] m_ md_ mw_ mv_ mk_ mr_ mo_ mf_ mb_ mx_ mp_ K n dn wn vn tk kn M wo le kd px F fc ft rw lb) h_ c_ d_ w_ v_ t_ rk_ ro_ rc_ al_ b_ ka_ na_ jo_ me_ wo_ fd_ nr_ nc_ sc_ ar ac K n dn wn vn tk kn M C al1 kd me px pcs bt wo le F fc nr nc sc1) H := hP
  have hD : va_D A (hwW cI cJ cG (mwW cI cJ cG [(o_, .inl (cJ, 1, .inr (.inl ov)))] m_ md_ mw_ mv_ mk_ mr_ mo_ mf_ mb_ mx_ mp_ K n dn wn vn tk kn M wo le kd px F fc ft rw lb) h_ c_ d_ w_ v_ t_ rk_ ro_ rc_ al_ b_ ka_ na_ jo_ me_ wo_ fd_ nr_ nc_ sc_ ar ac K n dn wn vn tk kn M C al1 kd me px pcs bt wo le F fc nr nc sc1) := hD
  refine lv_aload_n hx hb dL_law_601 rfl (lv_at hl 2 rfl) ?_
  refine lv_aload_n hx hb dL_law_602 rfl (lv_at hl 0 rfl) ?_
  refine lv_iload hx hb dL_law_603 (lv_at hl 4 rfl) ?_
  refine lv_iconst (v := 1) hx hb dL_law_605 (by decide) ?_
  refine lv_iadd hx hb dL_law_606 ?_
  refine lv_topi (fun x606 ex606 => ?_)
  obtain rfl : x606 = nI (i + 1) := by rw [ex606]; exact nI_add i 1
  refine va_sld hx hb hX hbl hbA hS (vp_in_nI (by omega) (by omega)) dL_law_607 ?_
  refine lv_topi (fun x607 ex607 => ?_)
  obtain rfl : x607 = xs (i + 1) := by rw [ex607, nI_clamp (by omega)]
  refine lv_aload_n hx hb dL_law_608 rfl (lv_at hl 0 rfl) ?_
  refine lv_iload hx hb dL_law_609 (lv_at hl 4 rfl) ?_
  refine lv_iconst (v := 2) hx hb dL_law_611 (by decide) ?_
  refine lv_iadd hx hb dL_law_612 ?_
  refine lv_topi (fun x612 ex612 => ?_)
  obtain rfl : x612 = nI (i + 2) := by rw [ex612]; exact nI_add i 2
  refine va_sld hx hb hX hbl hbA hS (vp_in_nI (by omega) (by omega)) dL_law_613 ?_
  refine lv_topi (fun x613 ex613 => ?_)
  obtain rfl : x613 = xs (i + 2) := by rw [ex613, nI_clamp (by omega)]
  have hP := hm_P hP
  have hD := hm_D hD
  have hP : va_P D vwCl (mwW cI cJ cG (hwW cI cJ cG [(o_, .inl (cJ, 1, .inr (.inl ov)))] h_ c_ d_ w_ v_ t_ rk_ ro_ rc_ al_ b_ ka_ na_ jo_ me_ wo_ fd_ nr_ nc_ sc_ ar ac K n dn wn vn tk kn M C al1 kd me px pcs bt wo le F fc nr nc sc1) m_ md_ mw_ mv_ mk_ mr_ mo_ mf_ mb_ mx_ mp_ K n dn wn vn tk kn M wo le kd px F fc ft rw lb) H := hP
  have hD : va_D A (mwW cI cJ cG (hwW cI cJ cG [(o_, .inl (cJ, 1, .inr (.inl ov)))] h_ c_ d_ w_ v_ t_ rk_ ro_ rc_ al_ b_ ka_ na_ jo_ me_ wo_ fd_ nr_ nc_ sc_ ar ac K n dn wn vn tk kn M C al1 kd me px pcs bt wo le F fc nr nc sc1) m_ md_ mw_ mv_ mk_ mr_ mo_ mf_ mb_ mx_ mp_ K n dn wn vn tk kn M wo le kd px F fc ft rw lb) := hD
  refine gc_Vl (As := [.int (xs (i + 1)), .int (xs (i + 2))]) (rest := [.long r1]) (ci := 5) (q0 := 0) ⟨hx, hb, hml, hown, hts⟩ (c_X4_wrong l D cI cJ cG H.size (hwW cI cJ cG [(o_, .inl (cJ, 1, .inr (.inl ov)))] h_ c_ d_ w_ v_ t_ rk_ ro_ rc_ al_ b_ ka_ na_ jo_ me_ wo_ fd_ nr_ nc_ sc_ ar ac K n dn wn vn tk kn M C al1 kd me px pcs bt wo le F fc nr nc sc1) m_ md_ mw_ mv_ mk_ mr_ mo_ mf_ mb_ mx_ mp_ K n dn wn vn tk kn M wo le kd px F fc ft rw lb (xs (i + 1)) (xs (i + 2)) hLI.m) (cwV 2 hts gL_law_X4_wrong rfl rfl rfl (by decide +kernel) ⟨Nat.le_of_ble_eq_true rfl, Nat.le_of_ble_eq_true rfl⟩) rfl rfl rfl hK hP hD hS hA rfl hl.1 rfl (Nat.le_of_ble_eq_true rfl) dL_law_614 ⟨hc0, hs0⟩ (fun r2 u2 H locs h2 hP hD hS => ?_)
  obtain ⟨g2, b2⟩ := h2
  have hP : va_P D vwCl (mwW cI cJ cG (hwW cI cJ cG [(o_, .inl (cJ, 1, .inr (.inl ov)))] h_ c_ d_ w_ v_ t_ rk_ ro_ rc_ al_ b_ ka_ na_ jo_ me_ wo_ fd_ nr_ nc_ sc_ ar ac K n dn wn vn tk kn M C al1 kd me px pcs bt wo le F fc nr nc sc1) m_ md_ mw_ mv_ mk_ mr_ mo_ mf_ mb_ mx_ mp_ K n dn wn vn tk kn M wo le kd px F fc 0 u2 lb) H := hP
  have hD : va_D A (mwW cI cJ cG (hwW cI cJ cG [(o_, .inl (cJ, 1, .inr (.inl ov)))] h_ c_ d_ w_ v_ t_ rk_ ro_ rc_ al_ b_ ka_ na_ jo_ me_ wo_ fd_ nr_ nc_ sc_ ar ac K n dn wn vn tk kn M C al1 kd me px pcs bt wo le F fc nr nc sc1) m_ md_ mw_ mv_ mk_ mr_ mo_ mf_ mb_ mx_ mp_ K n dn wn vn tk kn M wo le kd px F fc 0 u2 lb) := hD
  have hreq : r1 = r2 := by rw [h1, g2, hLI.wr]
  refine W.lcmp hx hb dL_law_617 ?_
  refine lv_if_eq (tgt := 847) hx hb dL_law_618 (by decide) (fun c9 => ?_) (fun c9 => absurd ((lg_cmp_eq _ _).mpr hreq) c9)
  refine W.widen (k := cells + 1) (n := slots + 6) (by show _ ≤ cells + 1; omega) (by show _ ≤ slots + 6; omega) ?_
  exact kb n dn wn vn tk kn M C al1 kd me px pcs bt wo le F fc nr nc sc1 0 u2 lb ov (hLI.rows hLI.h.2.2.2.2.2.2.1 hLI.h.2.2.2.2.2.2.2 b2 hLI.2.1.2) H locs ls hP hD hS (lv_sub hl [0, 1, 2, 3, 4] rfl)
set_option maxHeartbeats 4000000 in
set_option maxRecDepth 100000 in
theorem lc_correct (hx : p.tables.exec = Jvm.exec) (hb : c.code = cL_law) (hml : c.maxLocals = 7) (hown : s.vm.findClass RL = some m.cls) (hts : ∀ w ∈ wsL_law, w.before #[Value.ref b] s = true) (hX : va_X b L xs s s.heap) (hbl : b < s.heap.size) (hbA : ¬ A b) (hA : ∀ q, s.heap.size ≤ q → A q) (hK : va_K D vwCl (tyl cI cJ cG) s) (hi : i + 4 < L) (hL : L ≤ 2561) (hLI : LI K n dn wn vn kn M C kd px pcs bt F fc nr nc rw lb) (hcs : cells + 1 ≤ 601024 ∧ slots + 6 ≤ 7293000) (hP : va_P D vwCl (hwW cI cJ cG (mwW cI cJ cG [(o_, .inl (cJ, 1, .inr (.inl ov)))] m_ md_ mw_ mv_ mk_ mr_ mo_ mf_ mb_ mx_ mp_ K n dn wn vn tk kn M wo le kd px F fc ft rw lb) h_ c_ d_ w_ v_ t_ rk_ ro_ rc_ al_ b_ ka_ na_ jo_ me_ wo_ fd_ nr_ nc_ sc_ ar ac K n dn wn vn tk kn M C al kd me px pcs bt wo le F fc nr nc sc) H) (hD : va_D A (hwW cI cJ cG (mwW cI cJ cG [(o_, .inl (cJ, 1, .inr (.inl ov)))] m_ md_ mw_ mv_ mk_ mr_ mo_ mf_ mb_ mx_ mp_ K n dn wn vn tk kn M wo le kd px F fc ft rw lb) h_ c_ d_ w_ v_ t_ rk_ ro_ rc_ al_ b_ ka_ na_ jo_ me_ wo_ fd_ nr_ nc_ sc_ ar ac K n dn wn vn tk kn M C al kd me px pcs bt wo le F fc nr nc sc)) (hS : va_S A s.heap H locs) (hl : lv_has ls 7 [(0, .ref b), (1, .ref h_), (2, .ref m_), (3, .ref o_), (4, .int (nI i))]) (kb : ∀ (n : Nat) (dn : Nat → Nat) (wn : Nat → Nat) (vn : Nat → Nat) (tk : Int64) (kn : Nat → Nat) (M : Nat → Nat → Nat) (C : Nat → Nat → Nat) (al : Nat → Nat) (kd : Nat → Nat) (me : Nat → Nat) (px : Nat) (pcs : Nat) (bt : Bst) (wo : Nat → Int64) (le : Int64) (F : Nat → Nat) (fc : Nat) (nr : Nat → Nat) (nc : Nat → Nat) (sc : Nat → Nat) (ft : Nat) (rw : Nat → Nat) (lb : Nat → Nat) (ov : Nat → Int64), LI K n dn wn vn kn M C kd px pcs bt F fc nr nc rw lb → ∀ (H : Heap) (locs : List Loc) (ls : Array Slot), va_P D vwCl (mwW cI cJ cG (hwW cI cJ cG [(o_, .inl (cJ, 1, .inr (.inl ov)))] h_ c_ d_ w_ v_ t_ rk_ ro_ rc_ al_ b_ ka_ na_ jo_ me_ wo_ fd_ nr_ nc_ sc_ ar ac K n dn wn vn tk kn M C al kd me px pcs bt wo le F fc nr nc sc) m_ md_ mw_ mv_ mk_ mr_ mo_ mf_ mb_ mx_ mp_ K n dn wn vn tk kn M wo le kd px F fc ft rw lb) H → va_D A (mwW cI cJ cG (hwW cI cJ cG [(o_, .inl (cJ, 1, .inr (.inl ov)))] h_ c_ d_ w_ v_ t_ rk_ ro_ rc_ al_ b_ ka_ na_ jo_ me_ wo_ fd_ nr_ nc_ sc_ ar ac K n dn wn vn tk kn M C al kd me px pcs bt wo le F fc nr nc sc) m_ md_ mw_ mv_ mk_ mr_ mo_ mf_ mb_ mx_ mp_ K n dn wn vn tk kn M wo le kd px F fc ft rw lb) → va_S A s.heap H locs → lv_has ls 7 [(0, .ref b), (1, .ref h_), (2, .ref m_), (3, .ref o_), (4, .int (nI i))] → W p l e room_1 s m #[Value.ref b] below meth c H locs (cells + 1) (slots + 6) Q (F0 m 847 ls [])) : W p l e room_1 s m #[Value.ref b] below meth c H locs cells slots Q (F0 m 623 ls []) := by
  have hc0 : cells + 0 ≤ room_1.cells := by show cells + 0 ≤ 601024; omega
  have hs0 : slots + 0 ≤ room_1.slots := by show slots + 0 ≤ 7293000; omega
  refine lv_aload_n hx hb dL_law_623 rfl (lv_at hl 1 rfl) ?_
  refine lv_aload_n hx hb dL_law_624 rfl (lv_at hl 0 rfl) ?_
  refine lv_iload hx hb dL_law_625 (lv_at hl 4 rfl) ?_
  refine lv_iconst (v := 1) hx hb dL_law_627 (by decide) ?_
  refine lv_iadd hx hb dL_law_628 ?_
  refine lv_topi (fun x628 ex628 => ?_)
  obtain rfl : x628 = nI (i + 1) := by rw [ex628]; exact nI_add i 1
  refine va_sld hx hb hX hbl hbA hS (vp_in_nI (by omega) (by omega)) dL_law_629 ?_
  refine lv_topi (fun x629 ex629 => ?_)
  obtain rfl : x629 = xs (i + 1) := by rw [ex629, nI_clamp (by omega)]
  refine lv_aload_n hx hb dL_law_630 rfl (lv_at hl 0 rfl) ?_
  refine lv_iload hx hb dL_law_631 (lv_at hl 4 rfl) ?_
  refine lv_iconst (v := 2) hx hb dL_law_633 (by decide) ?_
  refine lv_iadd hx hb dL_law_634 ?_
  refine lv_topi (fun x634 ex634 => ?_)
  obtain rfl : x634 = nI (i + 2) := by rw [ex634]; exact nI_add i 2
  refine va_sld hx hb hX hbl hbA hS (vp_in_nI (by omega) (by omega)) dL_law_635 ?_
  refine lv_topi (fun x635 ex635 => ?_)
  obtain rfl : x635 = xs (i + 2) := by rw [ex635, nI_clamp (by omega)]
  refine gc_Vi (As := [.int (xs (i + 1)), .int (xs (i + 2))]) (rest := []) (ci := 4) (q0 := 0) ⟨hx, hb, hml, hown, hts⟩ (c_X3_correct l D cI cJ cG H.size (mwW cI cJ cG [(o_, .inl (cJ, 1, .inr (.inl ov)))] m_ md_ mw_ mv_ mk_ mr_ mo_ mf_ mb_ mx_ mp_ K n dn wn vn tk kn M wo le kd px F fc ft rw lb) h_ c_ d_ w_ v_ t_ rk_ ro_ rc_ al_ b_ ka_ na_ jo_ me_ wo_ fd_ nr_ nc_ sc_ ar ac K n dn wn vn tk kn M C al kd me px pcs bt wo le F fc nr nc sc (xs (i + 1)) (xs (i + 2)) hLI.h) (cwV 2 hts gL_law_X3_correct rfl rfl rfl (by decide +kernel) ⟨Nat.le_of_ble_eq_true rfl, Nat.le_of_ble_eq_true rfl⟩) rfl rfl rfl hK hP hD hS hA rfl hl.1 rfl (Nat.le_of_ble_eq_true rfl) dL_law_636 ⟨hc0, hs0⟩ (fun r1 u1 H locs h1 hP hD hS => ?_)
  obtain ⟨e1, rfl⟩ := h1
  have hP : va_P D vwCl (hwW cI cJ cG (mwW cI cJ cG [(o_, .inl (cJ, 1, .inr (.inl ov)))] m_ md_ mw_ mv_ mk_ mr_ mo_ mf_ mb_ mx_ mp_ K n dn wn vn tk kn M wo le kd px F fc ft rw lb) h_ c_ d_ w_ v_ t_ rk_ ro_ rc_ al_ b_ ka_ na_ jo_ me_ wo_ fd_ nr_ nc_ sc_ ar ac K n dn wn vn tk (if (inB (xs (i + 1)) n && inB (xs (i + 2)) K) = true then un kn (xs (i + 1)).toNatClampNeg (xs (i + 2)).toNatClampNeg else kn) M C al kd me px pcs bt wo le F fc nr nc sc) H := hP
  have hD : va_D A (hwW cI cJ cG (mwW cI cJ cG [(o_, .inl (cJ, 1, .inr (.inl ov)))] m_ md_ mw_ mv_ mk_ mr_ mo_ mf_ mb_ mx_ mp_ K n dn wn vn tk kn M wo le kd px F fc ft rw lb) h_ c_ d_ w_ v_ t_ rk_ ro_ rc_ al_ b_ ka_ na_ jo_ me_ wo_ fd_ nr_ nc_ sc_ ar ac K n dn wn vn tk (if (inB (xs (i + 1)) n && inB (xs (i + 2)) K) = true then un kn (xs (i + 1)).toNatClampNeg (xs (i + 2)).toNatClampNeg else kn) M C al kd me px pcs bt wo le F fc nr nc sc) := hD
  refine lv_aload_n hx hb dL_law_639 rfl (lv_at hl 2 rfl) ?_
  refine lv_aload_n hx hb dL_law_640 rfl (lv_at hl 0 rfl) ?_
  refine lv_iload hx hb dL_law_641 (lv_at hl 4 rfl) ?_
  refine lv_iconst (v := 1) hx hb dL_law_643 (by decide) ?_
  refine lv_iadd hx hb dL_law_644 ?_
  refine lv_topi (fun x644 ex644 => ?_)
  obtain rfl : x644 = nI (i + 1) := by rw [ex644]; exact nI_add i 1
  refine va_sld hx hb hX hbl hbA hS (vp_in_nI (by omega) (by omega)) dL_law_645 ?_
  refine lv_topi (fun x645 ex645 => ?_)
  obtain rfl : x645 = xs (i + 1) := by rw [ex645, nI_clamp (by omega)]
  refine lv_aload_n hx hb dL_law_646 rfl (lv_at hl 0 rfl) ?_
  refine lv_iload hx hb dL_law_647 (lv_at hl 4 rfl) ?_
  refine lv_iconst (v := 2) hx hb dL_law_649 (by decide) ?_
  refine lv_iadd hx hb dL_law_650 ?_
  refine lv_topi (fun x650 ex650 => ?_)
  obtain rfl : x650 = nI (i + 2) := by rw [ex650]; exact nI_add i 2
  refine va_sld hx hb hX hbl hbA hS (vp_in_nI (by omega) (by omega)) dL_law_651 ?_
  refine lv_topi (fun x651 ex651 => ?_)
  obtain rfl : x651 = xs (i + 2) := by rw [ex651, nI_clamp (by omega)]
  have hP := hm_P hP
  have hD := hm_D hD
  have hP : va_P D vwCl (mwW cI cJ cG (hwW cI cJ cG [(o_, .inl (cJ, 1, .inr (.inl ov)))] h_ c_ d_ w_ v_ t_ rk_ ro_ rc_ al_ b_ ka_ na_ jo_ me_ wo_ fd_ nr_ nc_ sc_ ar ac K n dn wn vn tk (if (inB (xs (i + 1)) n && inB (xs (i + 2)) K) = true then un kn (xs (i + 1)).toNatClampNeg (xs (i + 2)).toNatClampNeg else kn) M C al kd me px pcs bt wo le F fc nr nc sc) m_ md_ mw_ mv_ mk_ mr_ mo_ mf_ mb_ mx_ mp_ K n dn wn vn tk kn M wo le kd px F fc ft rw lb) H := hP
  have hD : va_D A (mwW cI cJ cG (hwW cI cJ cG [(o_, .inl (cJ, 1, .inr (.inl ov)))] h_ c_ d_ w_ v_ t_ rk_ ro_ rc_ al_ b_ ka_ na_ jo_ me_ wo_ fd_ nr_ nc_ sc_ ar ac K n dn wn vn tk (if (inB (xs (i + 1)) n && inB (xs (i + 2)) K) = true then un kn (xs (i + 1)).toNatClampNeg (xs (i + 2)).toNatClampNeg else kn) M C al kd me px pcs bt wo le F fc nr nc sc) m_ md_ mw_ mv_ mk_ mr_ mo_ mf_ mb_ mx_ mp_ K n dn wn vn tk kn M wo le kd px F fc ft rw lb) := hD
  refine gc_Vi (As := [.int (xs (i + 1)), .int (xs (i + 2))]) (rest := [.int r1]) (ci := 5) (q0 := 0) ⟨hx, hb, hml, hown, hts⟩ (c_X4_correct l D cI cJ cG H.size (hwW cI cJ cG [(o_, .inl (cJ, 1, .inr (.inl ov)))] h_ c_ d_ w_ v_ t_ rk_ ro_ rc_ al_ b_ ka_ na_ jo_ me_ wo_ fd_ nr_ nc_ sc_ ar ac K n dn wn vn tk (if (inB (xs (i + 1)) n && inB (xs (i + 2)) K) = true then un kn (xs (i + 1)).toNatClampNeg (xs (i + 2)).toNatClampNeg else kn) M C al kd me px pcs bt wo le F fc nr nc sc) m_ md_ mw_ mv_ mk_ mr_ mo_ mf_ mb_ mx_ mp_ K n dn wn vn tk kn M wo le kd px F fc ft rw lb (xs (i + 1)) (xs (i + 2)) hLI.m) (cwV 2 hts gL_law_X4_correct rfl rfl rfl (by decide +kernel) ⟨Nat.le_of_ble_eq_true rfl, Nat.le_of_ble_eq_true rfl⟩) rfl rfl rfl hK hP hD hS hA rfl hl.1 rfl (Nat.le_of_ble_eq_true rfl) dL_law_652 ⟨hc0, hs0⟩ (fun r2 u2 H locs h2 hP hD hS => ?_)
  obtain ⟨e2, rfl⟩ := h2
  have hP : va_P D vwCl (mwW cI cJ cG (hwW cI cJ cG [(o_, .inl (cJ, 1, .inr (.inl ov)))] h_ c_ d_ w_ v_ t_ rk_ ro_ rc_ al_ b_ ka_ na_ jo_ me_ wo_ fd_ nr_ nc_ sc_ ar ac K n dn wn vn tk (if (inB (xs (i + 1)) n && inB (xs (i + 2)) K) = true then un kn (xs (i + 1)).toNatClampNeg (xs (i + 2)).toNatClampNeg else kn) M C al kd me px pcs bt wo le F fc nr nc sc) m_ md_ mw_ mv_ mk_ mr_ mo_ mf_ mb_ mx_ mp_ K n dn wn vn tk (if (inB (xs (i + 1)) n && inB (xs (i + 2)) K) = true then un kn (xs (i + 1)).toNatClampNeg (xs (i + 2)).toNatClampNeg else kn) M wo le kd px F fc 0 rw lb) H := hP
  have hD : va_D A (mwW cI cJ cG (hwW cI cJ cG [(o_, .inl (cJ, 1, .inr (.inl ov)))] h_ c_ d_ w_ v_ t_ rk_ ro_ rc_ al_ b_ ka_ na_ jo_ me_ wo_ fd_ nr_ nc_ sc_ ar ac K n dn wn vn tk (if (inB (xs (i + 1)) n && inB (xs (i + 2)) K) = true then un kn (xs (i + 1)).toNatClampNeg (xs (i + 2)).toNatClampNeg else kn) M C al kd me px pcs bt wo le F fc nr nc sc) m_ md_ mw_ mv_ mk_ mr_ mo_ mf_ mb_ mx_ mp_ K n dn wn vn tk (if (inB (xs (i + 1)) n && inB (xs (i + 2)) K) = true then un kn (xs (i + 1)).toNatClampNeg (xs (i + 2)).toNatClampNeg else kn) M wo le kd px F fc 0 rw lb) := hD
  have hreq : r1 = r2 := by rw [e1, e2]
  have hK14 := hLI.h.1
  refine lv_icmp_eq (tgt := 847) hx hb dL_law_655 (by decide) (fun c9 => ?_) (fun c9 => absurd hreq c9)
  refine W.widen (k := cells + 1) (n := slots + 6) (by show _ ≤ cells + 1; omega) (by show _ ≤ slots + 6; omega) ?_
  exact kb n dn wn vn tk (if (inB (xs (i + 1)) n && inB (xs (i + 2)) K) = true then un kn (xs (i + 1)).toNatClampNeg (xs (i + 2)).toNatClampNeg else kn) M C al kd me px pcs bt wo le F fc nr nc sc 0 rw lb ov (hLI.tab hLI.h.2.1 (fun k => by
      split
      · rename_i hc
        rw [Bool.and_eq_true] at hc
        have := inB_lt hc.2 (by omega)
        exact un_le9 hLI.h.2.2.2.1.1 (by omega) k
      · exact hLI.h.2.2.2.1.1 k) hLI.h.2.2.2.1.2.1 hLI.h.2.2.2.1.2.2 hLI.2.2.1) H locs ls hP hD hS (lv_sub hl [0, 1, 2, 3, 4] rfl)
set_option maxHeartbeats 4000000 in
set_option maxRecDepth 100000 in
theorem lc_pixel (hx : p.tables.exec = Jvm.exec) (hb : c.code = cL_law) (hml : c.maxLocals = 7) (hown : s.vm.findClass RL = some m.cls) (hts : ∀ w ∈ wsL_law, w.before #[Value.ref b] s = true) (hX : va_X b L xs s s.heap) (hbl : b < s.heap.size) (hbA : ¬ A b) (hA : ∀ q, s.heap.size ≤ q → A q) (hK : va_K D vwCl (tyl cI cJ cG) s) (hi : i + 4 < L) (hL : L ≤ 2561) (hLI : LI K n dn wn vn kn M C kd px pcs bt F fc nr nc rw lb) (hcs : cells + 1 ≤ 601024 ∧ slots + 6 ≤ 7293000) (hP : va_P D vwCl (hwW cI cJ cG (mwW cI cJ cG [(o_, .inl (cJ, 1, .inr (.inl ov)))] m_ md_ mw_ mv_ mk_ mr_ mo_ mf_ mb_ mx_ mp_ K n dn wn vn tk kn M wo le kd px F fc ft rw lb) h_ c_ d_ w_ v_ t_ rk_ ro_ rc_ al_ b_ ka_ na_ jo_ me_ wo_ fd_ nr_ nc_ sc_ ar ac K n dn wn vn tk kn M C al kd me px pcs bt wo le F fc nr nc sc) H) (hD : va_D A (hwW cI cJ cG (mwW cI cJ cG [(o_, .inl (cJ, 1, .inr (.inl ov)))] m_ md_ mw_ mv_ mk_ mr_ mo_ mf_ mb_ mx_ mp_ K n dn wn vn tk kn M wo le kd px F fc ft rw lb) h_ c_ d_ w_ v_ t_ rk_ ro_ rc_ al_ b_ ka_ na_ jo_ me_ wo_ fd_ nr_ nc_ sc_ ar ac K n dn wn vn tk kn M C al kd me px pcs bt wo le F fc nr nc sc)) (hS : va_S A s.heap H locs) (hl : lv_has ls 7 [(0, .ref b), (1, .ref h_), (2, .ref m_), (3, .ref o_), (4, .int (nI i))]) (kb : ∀ (n : Nat) (dn : Nat → Nat) (wn : Nat → Nat) (vn : Nat → Nat) (tk : Int64) (kn : Nat → Nat) (M : Nat → Nat → Nat) (C : Nat → Nat → Nat) (al : Nat → Nat) (kd : Nat → Nat) (me : Nat → Nat) (px : Nat) (pcs : Nat) (bt : Bst) (wo : Nat → Int64) (le : Int64) (F : Nat → Nat) (fc : Nat) (nr : Nat → Nat) (nc : Nat → Nat) (sc : Nat → Nat) (ft : Nat) (rw : Nat → Nat) (lb : Nat → Nat) (ov : Nat → Int64), LI K n dn wn vn kn M C kd px pcs bt F fc nr nc rw lb → ∀ (H : Heap) (locs : List Loc) (ls : Array Slot), va_P D vwCl (mwW cI cJ cG (hwW cI cJ cG [(o_, .inl (cJ, 1, .inr (.inl ov)))] h_ c_ d_ w_ v_ t_ rk_ ro_ rc_ al_ b_ ka_ na_ jo_ me_ wo_ fd_ nr_ nc_ sc_ ar ac K n dn wn vn tk kn M C al kd me px pcs bt wo le F fc nr nc sc) m_ md_ mw_ mv_ mk_ mr_ mo_ mf_ mb_ mx_ mp_ K n dn wn vn tk kn M wo le kd px F fc ft rw lb) H → va_D A (mwW cI cJ cG (hwW cI cJ cG [(o_, .inl (cJ, 1, .inr (.inl ov)))] h_ c_ d_ w_ v_ t_ rk_ ro_ rc_ al_ b_ ka_ na_ jo_ me_ wo_ fd_ nr_ nc_ sc_ ar ac K n dn wn vn tk kn M C al kd me px pcs bt wo le F fc nr nc sc) m_ md_ mw_ mv_ mk_ mr_ mo_ mf_ mb_ mx_ mp_ K n dn wn vn tk kn M wo le kd px F fc ft rw lb) → va_S A s.heap H locs → lv_has ls 7 [(0, .ref b), (1, .ref h_), (2, .ref m_), (3, .ref o_), (4, .int (nI i))] → W p l e room_1 s m #[Value.ref b] below meth c H locs (cells + 1) (slots + 6) Q (F0 m 847 ls [])) : W p l e room_1 s m #[Value.ref b] below meth c H locs cells slots Q (F0 m 660 ls []) := by
  have hc0 : cells + 0 ≤ room_1.cells := by show cells + 0 ≤ 601024; omega
  have hs0 : slots + 0 ≤ room_1.slots := by show slots + 0 ≤ 7293000; omega
  refine lv_aload_n hx hb dL_law_660 rfl (lv_at hl 1 rfl) ?_
  refine lv_aload_n hx hb dL_law_661 rfl (lv_at hl 0 rfl) ?_
  refine lv_iload hx hb dL_law_662 (lv_at hl 4 rfl) ?_
  refine lv_iconst (v := 1) hx hb dL_law_664 (by decide) ?_
  refine lv_iadd hx hb dL_law_665 ?_
  refine lv_topi (fun x665 ex665 => ?_)
  obtain rfl : x665 = nI (i + 1) := by rw [ex665]; exact nI_add i 1
  refine va_sld hx hb hX hbl hbA hS (vp_in_nI (by omega) (by omega)) dL_law_666 ?_
  refine lv_topi (fun x666 ex666 => ?_)
  obtain rfl : x666 = xs (i + 1) := by rw [ex666, nI_clamp (by omega)]
  refine lv_aload_n hx hb dL_law_667 rfl (lv_at hl 0 rfl) ?_
  refine lv_iload hx hb dL_law_668 (lv_at hl 4 rfl) ?_
  refine lv_iconst (v := 2) hx hb dL_law_670 (by decide) ?_
  refine lv_iadd hx hb dL_law_671 ?_
  refine lv_topi (fun x671 ex671 => ?_)
  obtain rfl : x671 = nI (i + 2) := by rw [ex671]; exact nI_add i 2
  refine va_sld hx hb hX hbl hbA hS (vp_in_nI (by omega) (by omega)) dL_law_672 ?_
  refine lv_topi (fun x672 ex672 => ?_)
  obtain rfl : x672 = xs (i + 2) := by rw [ex672, nI_clamp (by omega)]
  refine gc_Vi (As := [.int (xs (i + 1)), .int (xs (i + 2))]) (rest := []) (ci := 4) (q0 := 0) ⟨hx, hb, hml, hown, hts⟩ (c_X3_pixel l D cI cJ cG H.size (mwW cI cJ cG [(o_, .inl (cJ, 1, .inr (.inl ov)))] m_ md_ mw_ mv_ mk_ mr_ mo_ mf_ mb_ mx_ mp_ K n dn wn vn tk kn M wo le kd px F fc ft rw lb) h_ c_ d_ w_ v_ t_ rk_ ro_ rc_ al_ b_ ka_ na_ jo_ me_ wo_ fd_ nr_ nc_ sc_ ar ac K n dn wn vn tk kn M C al kd me px pcs bt wo le F fc nr nc sc (xs (i + 1)) (xs (i + 2)) hLI.h) (cwV 2 hts gL_law_X3_pixel rfl rfl rfl (by decide +kernel) ⟨Nat.le_of_ble_eq_true rfl, Nat.le_of_ble_eq_true rfl⟩) rfl rfl rfl hK hP hD hS hA rfl hl.1 rfl (Nat.le_of_ble_eq_true rfl) dL_law_673 ⟨hc0, hs0⟩ (fun r1 u1 H locs h1 hP hD hS => ?_)
  obtain ⟨⟨kd1, px1, bt1, pcs1⟩, al1, sc1, nr1, nc1⟩ := u1
  obtain ⟨g1, e1, b1, b1'⟩ := h1
  have hP : va_P D vwCl (hwW cI cJ cG (mwW cI cJ cG [(o_, .inl (cJ, 1, .inr (.inl ov)))] m_ md_ mw_ mv_ mk_ mr_ mo_ mf_ mb_ mx_ mp_ K n dn wn vn tk kn M wo le kd px F fc ft rw lb) h_ c_ d_ w_ v_ t_ rk_ ro_ rc_ al_ b_ ka_ na_ jo_ me_ wo_ fd_ nr_ nc_ sc_ ar ac K n dn wn vn tk kn M C al1 kd1 me px1 pcs1 bt1 wo le F fc nr1 nc1 sc1) H := hP
  have hD : va_D A (hwW cI cJ cG (mwW cI cJ cG [(o_, .inl (cJ, 1, .inr (.inl ov)))] m_ md_ mw_ mv_ mk_ mr_ mo_ mf_ mb_ mx_ mp_ K n dn wn vn tk kn M wo le kd px F fc ft rw lb) h_ c_ d_ w_ v_ t_ rk_ ro_ rc_ al_ b_ ka_ na_ jo_ me_ wo_ fd_ nr_ nc_ sc_ ar ac K n dn wn vn tk kn M C al1 kd1 me px1 pcs1 bt1 wo le F fc nr1 nc1 sc1) := hD
  refine lv_aload_n hx hb dL_law_676 rfl (lv_at hl 2 rfl) ?_
  refine lv_aload_n hx hb dL_law_677 rfl (lv_at hl 0 rfl) ?_
  refine lv_iload hx hb dL_law_678 (lv_at hl 4 rfl) ?_
  refine lv_iconst (v := 1) hx hb dL_law_680 (by decide) ?_
  refine lv_iadd hx hb dL_law_681 ?_
  refine lv_topi (fun x681 ex681 => ?_)
  obtain rfl : x681 = nI (i + 1) := by rw [ex681]; exact nI_add i 1
  refine va_sld hx hb hX hbl hbA hS (vp_in_nI (by omega) (by omega)) dL_law_682 ?_
  refine lv_topi (fun x682 ex682 => ?_)
  obtain rfl : x682 = xs (i + 1) := by rw [ex682, nI_clamp (by omega)]
  refine lv_aload_n hx hb dL_law_683 rfl (lv_at hl 0 rfl) ?_
  refine lv_iload hx hb dL_law_684 (lv_at hl 4 rfl) ?_
  refine lv_iconst (v := 2) hx hb dL_law_686 (by decide) ?_
  refine lv_iadd hx hb dL_law_687 ?_
  refine lv_topi (fun x687 ex687 => ?_)
  obtain rfl : x687 = nI (i + 2) := by rw [ex687]; exact nI_add i 2
  refine va_sld hx hb hX hbl hbA hS (vp_in_nI (by omega) (by omega)) dL_law_688 ?_
  refine lv_topi (fun x688 ex688 => ?_)
  obtain rfl : x688 = xs (i + 2) := by rw [ex688, nI_clamp (by omega)]
  have hP := hm_P hP
  have hD := hm_D hD
  have hP : va_P D vwCl (mwW cI cJ cG (hwW cI cJ cG [(o_, .inl (cJ, 1, .inr (.inl ov)))] h_ c_ d_ w_ v_ t_ rk_ ro_ rc_ al_ b_ ka_ na_ jo_ me_ wo_ fd_ nr_ nc_ sc_ ar ac K n dn wn vn tk kn M C al1 kd1 me px1 pcs1 bt1 wo le F fc nr1 nc1 sc1) m_ md_ mw_ mv_ mk_ mr_ mo_ mf_ mb_ mx_ mp_ K n dn wn vn tk kn M wo le kd px F fc ft rw lb) H := hP
  have hD : va_D A (mwW cI cJ cG (hwW cI cJ cG [(o_, .inl (cJ, 1, .inr (.inl ov)))] h_ c_ d_ w_ v_ t_ rk_ ro_ rc_ al_ b_ ka_ na_ jo_ me_ wo_ fd_ nr_ nc_ sc_ ar ac K n dn wn vn tk kn M C al1 kd1 me px1 pcs1 bt1 wo le F fc nr1 nc1 sc1) m_ md_ mw_ mv_ mk_ mr_ mo_ mf_ mb_ mx_ mp_ K n dn wn vn tk kn M wo le kd px F fc ft rw lb) := hD
  refine gc_Vi (As := [.int (xs (i + 1)), .int (xs (i + 2))]) (rest := [.int r1]) (ci := 5) (q0 := 0) ⟨hx, hb, hml, hown, hts⟩ (c_X4_pixel l D cI cJ cG H.size (hwW cI cJ cG [(o_, .inl (cJ, 1, .inr (.inl ov)))] h_ c_ d_ w_ v_ t_ rk_ ro_ rc_ al_ b_ ka_ na_ jo_ me_ wo_ fd_ nr_ nc_ sc_ ar ac K n dn wn vn tk kn M C al1 kd1 me px1 pcs1 bt1 wo le F fc nr1 nc1 sc1) m_ md_ mw_ mv_ mk_ mr_ mo_ mf_ mb_ mx_ mp_ K n dn wn vn tk kn M wo le kd px F fc ft rw lb (xs (i + 1)) (xs (i + 2)) hLI.m) (cwV 2 hts gL_law_X4_pixel rfl rfl rfl (by decide +kernel) ⟨Nat.le_of_ble_eq_true rfl, Nat.le_of_ble_eq_true rfl⟩) rfl rfl rfl hK hP hD hS hA rfl hl.1 rfl (Nat.le_of_ble_eq_true rfl) dL_law_689 ⟨hc0, hs0⟩ (fun r2 u2 H locs h2 hP hD hS => ?_)
  obtain ⟨⟨kd2, px2⟩, rw2⟩ := u2
  obtain ⟨g2, e2, b2⟩ := h2
  have hP : va_P D vwCl (mwW cI cJ cG (hwW cI cJ cG [(o_, .inl (cJ, 1, .inr (.inl ov)))] h_ c_ d_ w_ v_ t_ rk_ ro_ rc_ al_ b_ ka_ na_ jo_ me_ wo_ fd_ nr_ nc_ sc_ ar ac K n dn wn vn tk kn M C al1 kd1 me px1 pcs1 bt1 wo le F fc nr1 nc1 sc1) m_ md_ mw_ mv_ mk_ mr_ mo_ mf_ mb_ mx_ mp_ K n dn wn vn tk kn M wo le kd2 px2 F fc 0 rw2 lb) H := hP
  have hD : va_D A (mwW cI cJ cG (hwW cI cJ cG [(o_, .inl (cJ, 1, .inr (.inl ov)))] h_ c_ d_ w_ v_ t_ rk_ ro_ rc_ al_ b_ ka_ na_ jo_ me_ wo_ fd_ nr_ nc_ sc_ ar ac K n dn wn vn tk kn M C al1 kd1 me px1 pcs1 bt1 wo le F fc nr1 nc1 sc1) m_ md_ mw_ mv_ mk_ mr_ mo_ mf_ mb_ mx_ mp_ K n dn wn vn tk kn M wo le kd2 px2 F fc 0 rw2 lb) := hD
  have hreq : r1 = r2 := by rw [g1, g2]
  refine lv_icmp_eq (tgt := 847) hx hb dL_law_692 (by decide) (fun c9 => ?_) (fun c9 => absurd hreq c9)
  refine W.widen (k := cells + 1) (n := slots + 6) (by show _ ≤ cells + 1; omega) (by show _ ≤ slots + 6; omega) ?_
  by_cases hc : free kd px (xs (i + 1)) (xs (i + 2)) = true
  · rw [if_pos hc, hLI.rdv] at e1
    rw [if_pos hc] at e2
    have hv := RDV_le (kn := kn) (C := CM M) (fc := ceN (fu (rwN dn wn vn) rw 8)) (w := -1) (n := n) (wo := wo) (le := le) hLI.h.1.1 hLI.h.1.2
    have hK4 := hLI.h.1.2
    have e1 := e1.symm
    have e2 := e2.symm
    cases e1
    cases e2
    exact kb n dn wn vn tk kn M C al1 (un kd (plc (xs (i + 1)) (xs (i + 2))) (RDV kn (CM M) (ceN (fu (rwN dn wn vn) rw 8)) (-1) n wo le K)) me (px + 1) ((telP kd px bt pcs (plc (xs (i + 1)) (xs (i + 2))) (RDV kn (CM M) (ceN (fu (rwN dn wn vn) rw 8)) (-1) n wo le K)).2.2.2) ((telP kd px bt pcs (plc (xs (i + 1)) (xs (i + 2))) (RDV kn (CM M) (ceN (fu (rwN dn wn vn) rw 8)) (-1) n wo le K)).2.2.1) wo le F fc nr1 nc1 sc1 0 rw2 lb ov ((hLI.pixel hc hv.1 (by omega)).rows b1 b1' b2 hLI.2.1.2) H locs ls hP hD hS (lv_sub hl [0, 1, 2, 3, 4] rfl)
  · rw [if_neg hc] at e1 e2
    have e1 := e1.symm
    have e2 := e2.symm
    cases e1
    cases e2
    exact kb _ _ _ _ _ _ _ _ _ _ _ _ _ _ _ _ _ _ _ _ _ _ _ _ _ (hLI.rows b1 b1' b2 hLI.2.1.2) H locs ls hP hD hS (lv_sub hl [0, 1, 2, 3, 4] rfl)
end LAWC
