section LAWC
variable {p : Program} {l : Launch} {e : Env} {s : State} {m : MethodId} {below : List Frame} {meth : Method} {c : Code} {H : Heap} {locs : List Loc} {cells slots : Nat} {Q : State → Prop} {ls : Array Slot} {D : va_G} {A : Nat → Prop} {cI cJ cG : ClassId} {b L i : Nat} {xs : Nat → Int32} {h_ c_ d_ w_ v_ t_ rk_ ro_ rc_ al_ b_ ka_ na_ jo_ me_ wo_ fd_ nr_ nc_ sc_ o_ m_ md_ mw_ mv_ mk_ mr_ mo_ mf_ mb_ mx_ mp_ : Nat} {ar ac : Nat → Nat} {K : Nat} {n : Nat} {dn : Nat → Nat} {wn : Nat → Nat} {vn : Nat → Nat} {tk : Int64} {kn : Nat → Nat} {M : Nat → Nat → Nat} {C : Nat → Nat → Nat} {al : Nat → Nat} {kd : Nat → Nat} {me : Nat → Nat} {px : Nat} {pcs : Nat} {bt : Bst} {wo : Nat → Int64} {le : Int64} {F : Nat → Nat} {fc : Nat} {nr : Nat → Nat} {nc : Nat → Nat} {sc : Nat → Nat} {ft : Nat} {rw : Nat → Nat} {lb : Nat → Nat} {ov : Nat → Int64}
set_option maxHeartbeats 4000000 in
set_option maxRecDepth 100000 in
theorem lc_pack (hx : p.tables.exec = Jvm.exec) (hb : c.code = cL_law) (hml : c.maxLocals = 7) (hown : s.vm.findClass RL = some m.cls) (hts : ∀ w ∈ wsL_law, w.before #[Value.ref b] s = true) (hX : va_X b L xs s s.heap) (hbl : b < s.heap.size) (hbA : ¬ A b) (hA : ∀ q, s.heap.size ≤ q → A q) (hK : va_K D vwCl (tyl cI cJ cG) s) (hi : i + 4 < L) (hL : L ≤ 2561) (hLI : LI K n dn wn vn kn M C kd px pcs bt F fc nr nc rw lb) (hcs : cells + 1 ≤ 601024 ∧ slots + 6 ≤ 7293000) (hP : va_P D vwCl (hwW cI cJ cG (mwW cI cJ cG [(o_, .inl (cJ, 1, .inr (.inl ov)))] m_ md_ mw_ mv_ mk_ mr_ mo_ mf_ mb_ mx_ mp_ K n dn wn vn tk kn M wo le kd px F fc ft rw lb) h_ c_ d_ w_ v_ t_ rk_ ro_ rc_ al_ b_ ka_ na_ jo_ me_ wo_ fd_ nr_ nc_ sc_ ar ac K n dn wn vn tk kn M C al kd me px pcs bt wo le F fc nr nc sc) H) (hD : va_D A (hwW cI cJ cG (mwW cI cJ cG [(o_, .inl (cJ, 1, .inr (.inl ov)))] m_ md_ mw_ mv_ mk_ mr_ mo_ mf_ mb_ mx_ mp_ K n dn wn vn tk kn M wo le kd px F fc ft rw lb) h_ c_ d_ w_ v_ t_ rk_ ro_ rc_ al_ b_ ka_ na_ jo_ me_ wo_ fd_ nr_ nc_ sc_ ar ac K n dn wn vn tk kn M C al kd me px pcs bt wo le F fc nr nc sc)) (hS : va_S A s.heap H locs) (hl : lv_has ls 7 [(0, .ref b), (1, .ref h_), (2, .ref m_), (3, .ref o_), (4, .int (nI i))]) (kb : ∀ (n : Nat) (dn : Nat → Nat) (wn : Nat → Nat) (vn : Nat → Nat) (tk : Int64) (kn : Nat → Nat) (M : Nat → Nat → Nat) (C : Nat → Nat → Nat) (al : Nat → Nat) (kd : Nat → Nat) (me : Nat → Nat) (px : Nat) (pcs : Nat) (bt : Bst) (wo : Nat → Int64) (le : Int64) (F : Nat → Nat) (fc : Nat) (nr : Nat → Nat) (nc : Nat → Nat) (sc : Nat → Nat) (ft : Nat) (rw : Nat → Nat) (lb : Nat → Nat) (ov : Nat → Int64), LI K n dn wn vn kn M C kd px pcs bt F fc nr nc rw lb → ∀ (H : Heap) (locs : List Loc) (ls : Array Slot), va_P D vwCl (mwW cI cJ cG (hwW cI cJ cG [(o_, .inl (cJ, 1, .inr (.inl ov)))] h_ c_ d_ w_ v_ t_ rk_ ro_ rc_ al_ b_ ka_ na_ jo_ me_ wo_ fd_ nr_ nc_ sc_ ar ac K n dn wn vn tk kn M C al kd me px pcs bt wo le F fc nr nc sc) m_ md_ mw_ mv_ mk_ mr_ mo_ mf_ mb_ mx_ mp_ K n dn wn vn tk kn M wo le kd px F fc ft rw lb) H → va_D A (mwW cI cJ cG (hwW cI cJ cG [(o_, .inl (cJ, 1, .inr (.inl ov)))] h_ c_ d_ w_ v_ t_ rk_ ro_ rc_ al_ b_ ka_ na_ jo_ me_ wo_ fd_ nr_ nc_ sc_ ar ac K n dn wn vn tk kn M C al kd me px pcs bt wo le F fc nr nc sc) m_ md_ mw_ mv_ mk_ mr_ mo_ mf_ mb_ mx_ mp_ K n dn wn vn tk kn M wo le kd px F fc ft rw lb) → va_S A s.heap H locs → lv_has ls 7 [(0, .ref b), (1, .ref h_), (2, .ref m_), (3, .ref o_), (4, .int (nI i))] → W p l e room_1 s m #[Value.ref b] below meth c H locs (cells + 1) (slots + 6) Q (F0 m 847 ls [])) : W p l e room_1 s m #[Value.ref b] below meth c H locs cells slots Q (F0 m 784 ls []) := by
  have hc0 : cells + 0 ≤ room_1.cells := by show cells + 0 ≤ 601024; omega
  have hs0 : slots + 0 ≤ room_1.slots := by show slots + 0 ≤ 7293000; omega
  refine lv_aload_n hx hb dL_law_784 rfl (lv_at hl 1 rfl) ?_
  refine lv_aload_n hx hb dL_law_785 rfl (lv_at hl 0 rfl) ?_
  refine lv_iload hx hb dL_law_786 (lv_at hl 4 rfl) ?_
  refine lv_iconst (v := 1) hx hb dL_law_788 (by decide) ?_
  refine lv_iadd hx hb dL_law_789 ?_
  refine lv_topi (fun x789 ex789 => ?_)
  obtain rfl : x789 = nI (i + 1) := by rw [ex789]; exact nI_add i 1
  refine va_sld hx hb hX hbl hbA hS (vp_in_nI (by omega) (by omega)) dL_law_790 ?_
  refine lv_topi (fun x790 ex790 => ?_)
  obtain rfl : x790 = xs (i + 1) := by rw [ex790, nI_clamp (by omega)]
  refine gc_Vi (As := [.int (xs (i + 1))]) (rest := []) (ci := 4) (q0 := 0) ⟨hx, hb, hml, hown, hts⟩ (c_X3_pack l D cI cJ cG H.size (mwW cI cJ cG [(o_, .inl (cJ, 1, .inr (.inl ov)))] m_ md_ mw_ mv_ mk_ mr_ mo_ mf_ mb_ mx_ mp_ K n dn wn vn tk kn M wo le kd px F fc ft rw lb) h_ c_ d_ w_ v_ t_ rk_ ro_ rc_ al_ b_ ka_ na_ jo_ me_ wo_ fd_ nr_ nc_ sc_ ar ac K n dn wn vn tk kn M C al kd me px pcs bt wo le F fc nr nc sc (xs (i + 1)) hLI.h) (cwV 1 hts gL_law_X3_pack rfl rfl rfl (by decide +kernel) ⟨Nat.le_of_ble_eq_true rfl, Nat.le_of_ble_eq_true rfl⟩) rfl rfl rfl hK hP hD hS hA rfl hl.1 rfl (Nat.le_of_ble_eq_true rfl) dL_law_791 ⟨hc0, hs0⟩ (fun r1 u1 H locs h1 hP hD hS => ?_)
  have hP : va_P D vwCl (hwW cI cJ cG (mwW cI cJ cG [(o_, .inl (cJ, 1, .inr (.inl ov)))] m_ md_ mw_ mv_ mk_ mr_ mo_ mf_ mb_ mx_ mp_ K n dn wn vn tk kn M wo le kd px F fc ft rw lb) h_ c_ d_ w_ v_ t_ rk_ ro_ rc_ al_ b_ ka_ na_ jo_ me_ wo_ fd_ nr_ nc_ sc_ ar ac K n dn wn vn tk kn M C al kd me px pcs bt wo le F fc nr nc sc) H := hP
  have hD : va_D A (hwW cI cJ cG (mwW cI cJ cG [(o_, .inl (cJ, 1, .inr (.inl ov)))] m_ md_ mw_ mv_ mk_ mr_ mo_ mf_ mb_ mx_ mp_ K n dn wn vn tk kn M wo le kd px F fc ft rw lb) h_ c_ d_ w_ v_ t_ rk_ ro_ rc_ al_ b_ ka_ na_ jo_ me_ wo_ fd_ nr_ nc_ sc_ ar ac K n dn wn vn tk kn M C al kd me px pcs bt wo le F fc nr nc sc) := hD
  refine lv_aload_n hx hb dL_law_794 rfl (lv_at hl 2 rfl) ?_
  refine lv_aload_n hx hb dL_law_795 rfl (lv_at hl 0 rfl) ?_
  refine lv_iload hx hb dL_law_796 (lv_at hl 4 rfl) ?_
  refine lv_iconst (v := 1) hx hb dL_law_798 (by decide) ?_
  refine lv_iadd hx hb dL_law_799 ?_
  refine lv_topi (fun x799 ex799 => ?_)
  obtain rfl : x799 = nI (i + 1) := by rw [ex799]; exact nI_add i 1
  refine va_sld hx hb hX hbl hbA hS (vp_in_nI (by omega) (by omega)) dL_law_800 ?_
  refine lv_topi (fun x800 ex800 => ?_)
  obtain rfl : x800 = xs (i + 1) := by rw [ex800, nI_clamp (by omega)]
  have hP := hm_P hP
  have hD := hm_D hD
  have hP : va_P D vwCl (mwW cI cJ cG (hwW cI cJ cG [(o_, .inl (cJ, 1, .inr (.inl ov)))] h_ c_ d_ w_ v_ t_ rk_ ro_ rc_ al_ b_ ka_ na_ jo_ me_ wo_ fd_ nr_ nc_ sc_ ar ac K n dn wn vn tk kn M C al kd me px pcs bt wo le F fc nr nc sc) m_ md_ mw_ mv_ mk_ mr_ mo_ mf_ mb_ mx_ mp_ K n dn wn vn tk kn M wo le kd px F fc ft rw lb) H := hP
  have hD : va_D A (mwW cI cJ cG (hwW cI cJ cG [(o_, .inl (cJ, 1, .inr (.inl ov)))] h_ c_ d_ w_ v_ t_ rk_ ro_ rc_ al_ b_ ka_ na_ jo_ me_ wo_ fd_ nr_ nc_ sc_ ar ac K n dn wn vn tk kn M C al kd me px pcs bt wo le F fc nr nc sc) m_ md_ mw_ mv_ mk_ mr_ mo_ mf_ mb_ mx_ mp_ K n dn wn vn tk kn M wo le kd px F fc ft rw lb) := hD
  refine gc_Vi (As := [.int (xs (i + 1))]) (rest := [.int r1]) (ci := 5) (q0 := 0) ⟨hx, hb, hml, hown, hts⟩ (c_X4_pack l D cI cJ cG H.size (hwW cI cJ cG [(o_, .inl (cJ, 1, .inr (.inl ov)))] h_ c_ d_ w_ v_ t_ rk_ ro_ rc_ al_ b_ ka_ na_ jo_ me_ wo_ fd_ nr_ nc_ sc_ ar ac K n dn wn vn tk kn M C al kd me px pcs bt wo le F fc nr nc sc) m_ md_ mw_ mv_ mk_ mr_ mo_ mf_ mb_ mx_ mp_ K n dn wn vn tk kn M wo le kd px F fc ft rw lb (xs (i + 1)) hLI.m) (cwV 1 hts gL_law_X4_pack rfl rfl rfl (by decide +kernel) ⟨Nat.le_of_ble_eq_true rfl, Nat.le_of_ble_eq_true rfl⟩) rfl rfl rfl hK hP hD hS hA rfl hl.1 rfl (Nat.le_of_ble_eq_true rfl) dL_law_801 ⟨hc0, hs0⟩ (fun r2 u2 H locs h2 hP hD hS => ?_)
  have hP : va_P D vwCl (mwW cI cJ cG (hwW cI cJ cG [(o_, .inl (cJ, 1, .inr (.inl ov)))] h_ c_ d_ w_ v_ t_ rk_ ro_ rc_ al_ b_ ka_ na_ jo_ me_ wo_ fd_ nr_ nc_ sc_ ar ac K n dn wn vn tk kn M C al kd me px pcs bt wo le F fc nr nc sc) m_ md_ mw_ mv_ mk_ mr_ mo_ mf_ mb_ mx_ mp_ K n dn wn vn tk kn M wo le kd px F fc 0 rw lb) H := hP
  have hD : va_D A (mwW cI cJ cG (hwW cI cJ cG [(o_, .inl (cJ, 1, .inr (.inl ov)))] h_ c_ d_ w_ v_ t_ rk_ ro_ rc_ al_ b_ ka_ na_ jo_ me_ wo_ fd_ nr_ nc_ sc_ ar ac K n dn wn vn tk kn M C al kd me px pcs bt wo le F fc nr nc sc) m_ md_ mw_ mv_ mk_ mr_ mo_ mf_ mb_ mx_ mp_ K n dn wn vn tk kn M wo le kd px F fc 0 rw lb) := hD
  have hreq : r1 = r2 := by rw [h1, h2]
  refine lv_icmp_eq (tgt := 847) hx hb dL_law_804 (by decide) (fun c9 => ?_) (fun c9 => absurd hreq c9)
  refine W.widen (k := cells + 1) (n := slots + 6) (by show _ ≤ cells + 1; omega) (by show _ ≤ slots + 6; omega) ?_
  exact kb n dn wn vn tk kn M C al kd me px pcs bt wo le F fc nr nc sc 0 rw lb ov hLI H locs ls hP hD hS (lv_sub hl [0, 1, 2, 3, 4] rfl)
set_option maxHeartbeats 4000000 in
set_option maxRecDepth 100000 in
theorem lc_feed (hx : p.tables.exec = Jvm.exec) (hb : c.code = cL_law) (hml : c.maxLocals = 7) (hown : s.vm.findClass RL = some m.cls) (hts : ∀ w ∈ wsL_law, w.before #[Value.ref b] s = true) (hX : va_X b L xs s s.heap) (hbl : b < s.heap.size) (hbA : ¬ A b) (hA : ∀ q, s.heap.size ≤ q → A q) (hK : va_K D vwCl (tyl cI cJ cG) s) (hi : i + 4 < L) (hL : L ≤ 2561) (hLI : LI K n dn wn vn kn M C kd px pcs bt F fc nr nc rw lb) (hcs : cells + 1 ≤ 601024 ∧ slots + 6 ≤ 7293000) (hP : va_P D vwCl (hwW cI cJ cG (mwW cI cJ cG [(o_, .inl (cJ, 1, .inr (.inl ov)))] m_ md_ mw_ mv_ mk_ mr_ mo_ mf_ mb_ mx_ mp_ K n dn wn vn tk kn M wo le kd px F fc ft rw lb) h_ c_ d_ w_ v_ t_ rk_ ro_ rc_ al_ b_ ka_ na_ jo_ me_ wo_ fd_ nr_ nc_ sc_ ar ac K n dn wn vn tk kn M C al kd me px pcs bt wo le F fc nr nc sc) H) (hD : va_D A (hwW cI cJ cG (mwW cI cJ cG [(o_, .inl (cJ, 1, .inr (.inl ov)))] m_ md_ mw_ mv_ mk_ mr_ mo_ mf_ mb_ mx_ mp_ K n dn wn vn tk kn M wo le kd px F fc ft rw lb) h_ c_ d_ w_ v_ t_ rk_ ro_ rc_ al_ b_ ka_ na_ jo_ me_ wo_ fd_ nr_ nc_ sc_ ar ac K n dn wn vn tk kn M C al kd me px pcs bt wo le F fc nr nc sc)) (hS : va_S A s.heap H locs) (hl : lv_has ls 7 [(0, .ref b), (1, .ref h_), (2, .ref m_), (3, .ref o_), (4, .int (nI i))]) (kb : ∀ (n : Nat) (dn : Nat → Nat) (wn : Nat → Nat) (vn : Nat → Nat) (tk : Int64) (kn : Nat → Nat) (M : Nat → Nat → Nat) (C : Nat → Nat → Nat) (al : Nat → Nat) (kd : Nat → Nat) (me : Nat → Nat) (px : Nat) (pcs : Nat) (bt : Bst) (wo : Nat → Int64) (le : Int64) (F : Nat → Nat) (fc : Nat) (nr : Nat → Nat) (nc : Nat → Nat) (sc : Nat → Nat) (ft : Nat) (rw : Nat → Nat) (lb : Nat → Nat) (ov : Nat → Int64), LI K n dn wn vn kn M C kd px pcs bt F fc nr nc rw lb → ∀ (H : Heap) (locs : List Loc) (ls : Array Slot), va_P D vwCl (mwW cI cJ cG (hwW cI cJ cG [(o_, .inl (cJ, 1, .inr (.inl ov)))] h_ c_ d_ w_ v_ t_ rk_ ro_ rc_ al_ b_ ka_ na_ jo_ me_ wo_ fd_ nr_ nc_ sc_ ar ac K n dn wn vn tk kn M C al kd me px pcs bt wo le F fc nr nc sc) m_ md_ mw_ mv_ mk_ mr_ mo_ mf_ mb_ mx_ mp_ K n dn wn vn tk kn M wo le kd px F fc ft rw lb) H → va_D A (mwW cI cJ cG (hwW cI cJ cG [(o_, .inl (cJ, 1, .inr (.inl ov)))] h_ c_ d_ w_ v_ t_ rk_ ro_ rc_ al_ b_ ka_ na_ jo_ me_ wo_ fd_ nr_ nc_ sc_ ar ac K n dn wn vn tk kn M C al kd me px pcs bt wo le F fc nr nc sc) m_ md_ mw_ mv_ mk_ mr_ mo_ mf_ mb_ mx_ mp_ K n dn wn vn tk kn M wo le kd px F fc ft rw lb) → va_S A s.heap H locs → lv_has ls 7 [(0, .ref b), (1, .ref h_), (2, .ref m_), (3, .ref o_), (4, .int (nI i))] → W p l e room_1 s m #[Value.ref b] below meth c H locs (cells + 1) (slots + 6) Q (F0 m 847 ls [])) : W p l e room_1 s m #[Value.ref b] below meth c H locs cells slots Q (F0 m 809 ls []) := by
  have hc0 : cells + 0 ≤ room_1.cells := by show cells + 0 ≤ 601024; omega
  have hs0 : slots + 0 ≤ room_1.slots := by show slots + 0 ≤ 7293000; omega
  refine lv_aload_n hx hb dL_law_809 rfl (lv_at hl 1 rfl) ?_
  refine lv_aload_n hx hb dL_law_810 rfl (lv_at hl 0 rfl) ?_
  refine lv_iload hx hb dL_law_811 (lv_at hl 4 rfl) ?_
  refine lv_iconst (v := 1) hx hb dL_law_813 (by decide) ?_
  refine lv_iadd hx hb dL_law_814 ?_
  refine lv_topi (fun x814 ex814 => ?_)
  obtain rfl : x814 = nI (i + 1) := by rw [ex814]; exact nI_add i 1
  refine va_sld hx hb hX hbl hbA hS (vp_in_nI (by omega) (by omega)) dL_law_815 ?_
  refine lv_topi (fun x815 ex815 => ?_)
  obtain rfl : x815 = xs (i + 1) := by rw [ex815, nI_clamp (by omega)]
  refine gc_Vi (As := [.int (xs (i + 1))]) (rest := []) (ci := 4) (q0 := 0) ⟨hx, hb, hml, hown, hts⟩ (c_X3_feed l D cI cJ cG H.size (mwW cI cJ cG [(o_, .inl (cJ, 1, .inr (.inl ov)))] m_ md_ mw_ mv_ mk_ mr_ mo_ mf_ mb_ mx_ mp_ K n dn wn vn tk kn M wo le kd px F fc ft rw lb) h_ c_ d_ w_ v_ t_ rk_ ro_ rc_ al_ b_ ka_ na_ jo_ me_ wo_ fd_ nr_ nc_ sc_ ar ac K n dn wn vn tk kn M C al kd me px pcs bt wo le F fc nr nc sc (xs (i + 1)) hLI.h) (cwV 1 hts gL_law_X3_feed rfl rfl rfl (by decide +kernel) ⟨Nat.le_of_ble_eq_true rfl, Nat.le_of_ble_eq_true rfl⟩) rfl rfl rfl hK hP hD hS hA rfl hl.1 rfl (Nat.le_of_ble_eq_true rfl) dL_law_816 ⟨hc0, hs0⟩ (fun r1 u1 H locs h1 hP hD hS => ?_)
  obtain ⟨F1, fc1⟩ := u1
  obtain ⟨g1, e1⟩ := h1
  have hP : va_P D vwCl (hwW cI cJ cG (mwW cI cJ cG [(o_, .inl (cJ, 1, .inr (.inl ov)))] m_ md_ mw_ mv_ mk_ mr_ mo_ mf_ mb_ mx_ mp_ K n dn wn vn tk kn M wo le kd px F fc ft rw lb) h_ c_ d_ w_ v_ t_ rk_ ro_ rc_ al_ b_ ka_ na_ jo_ me_ wo_ fd_ nr_ nc_ sc_ ar ac K n dn wn vn tk kn M C al kd me px pcs bt wo le F1 fc1 nr nc sc) H := hP
  have hD : va_D A (hwW cI cJ cG (mwW cI cJ cG [(o_, .inl (cJ, 1, .inr (.inl ov)))] m_ md_ mw_ mv_ mk_ mr_ mo_ mf_ mb_ mx_ mp_ K n dn wn vn tk kn M wo le kd px F fc ft rw lb) h_ c_ d_ w_ v_ t_ rk_ ro_ rc_ al_ b_ ka_ na_ jo_ me_ wo_ fd_ nr_ nc_ sc_ ar ac K n dn wn vn tk kn M C al kd me px pcs bt wo le F1 fc1 nr nc sc) := hD
  refine lv_aload_n hx hb dL_law_819 rfl (lv_at hl 2 rfl) ?_
  refine lv_aload_n hx hb dL_law_820 rfl (lv_at hl 0 rfl) ?_
  refine lv_iload hx hb dL_law_821 (lv_at hl 4 rfl) ?_
  refine lv_iconst (v := 1) hx hb dL_law_823 (by decide) ?_
  refine lv_iadd hx hb dL_law_824 ?_
  refine lv_topi (fun x824 ex824 => ?_)
  obtain rfl : x824 = nI (i + 1) := by rw [ex824]; exact nI_add i 1
  refine va_sld hx hb hX hbl hbA hS (vp_in_nI (by omega) (by omega)) dL_law_825 ?_
  refine lv_topi (fun x825 ex825 => ?_)
  obtain rfl : x825 = xs (i + 1) := by rw [ex825, nI_clamp (by omega)]
  have hP := hm_P hP
  have hD := hm_D hD
  have hP : va_P D vwCl (mwW cI cJ cG (hwW cI cJ cG [(o_, .inl (cJ, 1, .inr (.inl ov)))] h_ c_ d_ w_ v_ t_ rk_ ro_ rc_ al_ b_ ka_ na_ jo_ me_ wo_ fd_ nr_ nc_ sc_ ar ac K n dn wn vn tk kn M C al kd me px pcs bt wo le F1 fc1 nr nc sc) m_ md_ mw_ mv_ mk_ mr_ mo_ mf_ mb_ mx_ mp_ K n dn wn vn tk kn M wo le kd px F fc ft rw lb) H := hP
  have hD : va_D A (mwW cI cJ cG (hwW cI cJ cG [(o_, .inl (cJ, 1, .inr (.inl ov)))] h_ c_ d_ w_ v_ t_ rk_ ro_ rc_ al_ b_ ka_ na_ jo_ me_ wo_ fd_ nr_ nc_ sc_ ar ac K n dn wn vn tk kn M C al kd me px pcs bt wo le F1 fc1 nr nc sc) m_ md_ mw_ mv_ mk_ mr_ mo_ mf_ mb_ mx_ mp_ K n dn wn vn tk kn M wo le kd px F fc ft rw lb) := hD
  refine gc_Vi (As := [.int (xs (i + 1))]) (rest := [.int r1]) (ci := 5) (q0 := 0) ⟨hx, hb, hml, hown, hts⟩ (c_X4_feed l D cI cJ cG H.size (hwW cI cJ cG [(o_, .inl (cJ, 1, .inr (.inl ov)))] h_ c_ d_ w_ v_ t_ rk_ ro_ rc_ al_ b_ ka_ na_ jo_ me_ wo_ fd_ nr_ nc_ sc_ ar ac K n dn wn vn tk kn M C al kd me px pcs bt wo le F1 fc1 nr nc sc) m_ md_ mw_ mv_ mk_ mr_ mo_ mf_ mb_ mx_ mp_ K n dn wn vn tk kn M wo le kd px F fc ft rw lb (xs (i + 1)) hLI.m) (cwV 1 hts gL_law_X4_feed rfl rfl rfl (by decide +kernel) ⟨Nat.le_of_ble_eq_true rfl, Nat.le_of_ble_eq_true rfl⟩) rfl rfl rfl hK hP hD hS hA rfl hl.1 rfl (Nat.le_of_ble_eq_true rfl) dL_law_826 ⟨hc0, hs0⟩ (fun r2 u2 H locs h2 hP hD hS => ?_)
  obtain ⟨F2, fc2⟩ := u2
  obtain ⟨g2, e2⟩ := h2
  have hP : va_P D vwCl (mwW cI cJ cG (hwW cI cJ cG [(o_, .inl (cJ, 1, .inr (.inl ov)))] h_ c_ d_ w_ v_ t_ rk_ ro_ rc_ al_ b_ ka_ na_ jo_ me_ wo_ fd_ nr_ nc_ sc_ ar ac K n dn wn vn tk kn M C al kd me px pcs bt wo le F1 fc1 nr nc sc) m_ md_ mw_ mv_ mk_ mr_ mo_ mf_ mb_ mx_ mp_ K n dn wn vn tk kn M wo le kd px F2 fc2 0 rw lb) H := hP
  have hD : va_D A (mwW cI cJ cG (hwW cI cJ cG [(o_, .inl (cJ, 1, .inr (.inl ov)))] h_ c_ d_ w_ v_ t_ rk_ ro_ rc_ al_ b_ ka_ na_ jo_ me_ wo_ fd_ nr_ nc_ sc_ ar ac K n dn wn vn tk kn M C al kd me px pcs bt wo le F1 fc1 nr nc sc) m_ md_ mw_ mv_ mk_ mr_ mo_ mf_ mb_ mx_ mp_ K n dn wn vn tk kn M wo le kd px F2 fc2 0 rw lb) := hD
  have hreq : r1 = r2 := by rw [g1, g2]
  refine lv_icmp_eq (tgt := 847) hx hb dL_law_829 (by decide) (fun c9 => ?_) (fun c9 => absurd hreq c9)
  refine W.widen (k := cells + 1) (n := slots + 6) (by show _ ≤ cells + 1; omega) (by show _ ≤ slots + 6; omega) ?_
  by_cases hc : (inB (xs (i + 1)) 256 && decide (fc < 400)) = true
  · rw [if_pos hc] at e1 e2
    have e1 := e1.symm
    have e2 := e2.symm
    cases e1
    cases e2
    have hc2 := hc
    rw [Bool.and_eq_true] at hc2
    have hx9 := inB_lt hc2.1 (by omega)
    have hf9 := of_decide_eq_true hc2.2
    exact kb n dn wn vn tk kn M C al kd me px pcs bt wo le (un F fc (xs (i + 1)).toNatClampNeg) (fc + 1) nr nc sc 0 rw lb ov (hLI.fd (un_le9 hLI.h.2.2.2.2.2.1.1 (by omega)) (by omega)) H locs ls hP hD hS (lv_sub hl [0, 1, 2, 3, 4] rfl)
  · rw [if_neg hc] at e1 e2
    have e1 := e1.symm
    have e2 := e2.symm
    cases e1
    cases e2
    exact kb _ _ _ _ _ _ _ _ _ _ _ _ _ _ _ _ _ _ _ _ _ _ _ _ _ hLI H locs ls hP hD hS (lv_sub hl [0, 1, 2, 3, 4] rfl)
set_option maxHeartbeats 4000000 in
set_option maxRecDepth 100000 in
theorem lc_open (hx : p.tables.exec = Jvm.exec) (hb : c.code = cL_law) (hml : c.maxLocals = 7) (hown : s.vm.findClass RL = some m.cls) (hts : ∀ w ∈ wsL_law, w.before #[Value.ref b] s = true) (hX : va_X b L xs s s.heap) (hbl : b < s.heap.size) (hbA : ¬ A b) (hA : ∀ q, s.heap.size ≤ q → A q) (hK : va_K D vwCl (tyl cI cJ cG) s) (hi : i + 4 < L) (hL : L ≤ 2561) (hLI : LI K n dn wn vn kn M C kd px pcs bt F fc nr nc rw lb) (hcs : cells + 1 ≤ 601024 ∧ slots + 6 ≤ 7293000) (hP : va_P D vwCl (hwW cI cJ cG (mwW cI cJ cG [(o_, .inl (cJ, 1, .inr (.inl ov)))] m_ md_ mw_ mv_ mk_ mr_ mo_ mf_ mb_ mx_ mp_ K n dn wn vn tk kn M wo le kd px F fc ft rw lb) h_ c_ d_ w_ v_ t_ rk_ ro_ rc_ al_ b_ ka_ na_ jo_ me_ wo_ fd_ nr_ nc_ sc_ ar ac K n dn wn vn tk kn M C al kd me px pcs bt wo le F fc nr nc sc) H) (hD : va_D A (hwW cI cJ cG (mwW cI cJ cG [(o_, .inl (cJ, 1, .inr (.inl ov)))] m_ md_ mw_ mv_ mk_ mr_ mo_ mf_ mb_ mx_ mp_ K n dn wn vn tk kn M wo le kd px F fc ft rw lb) h_ c_ d_ w_ v_ t_ rk_ ro_ rc_ al_ b_ ka_ na_ jo_ me_ wo_ fd_ nr_ nc_ sc_ ar ac K n dn wn vn tk kn M C al kd me px pcs bt wo le F fc nr nc sc)) (hS : va_S A s.heap H locs) (hl : lv_has ls 7 [(0, .ref b), (1, .ref h_), (2, .ref m_), (3, .ref o_), (4, .int (nI i))]) (kb : ∀ (n : Nat) (dn : Nat → Nat) (wn : Nat → Nat) (vn : Nat → Nat) (tk : Int64) (kn : Nat → Nat) (M : Nat → Nat → Nat) (C : Nat → Nat → Nat) (al : Nat → Nat) (kd : Nat → Nat) (me : Nat → Nat) (px : Nat) (pcs : Nat) (bt : Bst) (wo : Nat → Int64) (le : Int64) (F : Nat → Nat) (fc : Nat) (nr : Nat → Nat) (nc : Nat → Nat) (sc : Nat → Nat) (ft : Nat) (rw : Nat → Nat) (lb : Nat → Nat) (ov : Nat → Int64), LI K n dn wn vn kn M C kd px pcs bt F fc nr nc rw lb → ∀ (H : Heap) (locs : List Loc) (ls : Array Slot), va_P D vwCl (mwW cI cJ cG (hwW cI cJ cG [(o_, .inl (cJ, 1, .inr (.inl ov)))] h_ c_ d_ w_ v_ t_ rk_ ro_ rc_ al_ b_ ka_ na_ jo_ me_ wo_ fd_ nr_ nc_ sc_ ar ac K n dn wn vn tk kn M C al kd me px pcs bt wo le F fc nr nc sc) m_ md_ mw_ mv_ mk_ mr_ mo_ mf_ mb_ mx_ mp_ K n dn wn vn tk kn M wo le kd px F fc ft rw lb) H → va_D A (mwW cI cJ cG (hwW cI cJ cG [(o_, .inl (cJ, 1, .inr (.inl ov)))] h_ c_ d_ w_ v_ t_ rk_ ro_ rc_ al_ b_ ka_ na_ jo_ me_ wo_ fd_ nr_ nc_ sc_ ar ac K n dn wn vn tk kn M C al kd me px pcs bt wo le F fc nr nc sc) m_ md_ mw_ mv_ mk_ mr_ mo_ mf_ mb_ mx_ mp_ K n dn wn vn tk kn M wo le kd px F fc ft rw lb) → va_S A s.heap H locs → lv_has ls 7 [(0, .ref b), (1, .ref h_), (2, .ref m_), (3, .ref o_), (4, .int (nI i))] → W p l e room_1 s m #[Value.ref b] below meth c H locs (cells + 1) (slots + 6) Q (F0 m 847 ls [])) : W p l e room_1 s m #[Value.ref b] below meth c H locs cells slots Q (F0 m 834 ls []) := by
  have hc0 : cells + 0 ≤ room_1.cells := by show cells + 0 ≤ 601024; omega
  have hs0 : slots + 0 ≤ room_1.slots := by show slots + 0 ≤ 7293000; omega
  refine lv_aload_n hx hb dL_law_834 rfl (lv_at hl 1 rfl) ?_
  refine gc_Vi (As := []) (rest := []) (ci := 4) (q0 := 0) ⟨hx, hb, hml, hown, hts⟩ (c_X3_open l D cI cJ cG H.size (mwW cI cJ cG [(o_, .inl (cJ, 1, .inr (.inl ov)))] m_ md_ mw_ mv_ mk_ mr_ mo_ mf_ mb_ mx_ mp_ K n dn wn vn tk kn M wo le kd px F fc ft rw lb) h_ c_ d_ w_ v_ t_ rk_ ro_ rc_ al_ b_ ka_ na_ jo_ me_ wo_ fd_ nr_ nc_ sc_ ar ac K n dn wn vn tk kn M C al kd me px pcs bt wo le F fc nr nc sc  hLI.h) (cwV 0 hts gL_law_X3_open rfl rfl rfl (by decide +kernel) ⟨Nat.le_of_ble_eq_true rfl, Nat.le_of_ble_eq_true rfl⟩) rfl rfl rfl hK hP hD hS hA rfl hl.1 rfl (Nat.le_of_ble_eq_true rfl) dL_law_835 ⟨hc0, hs0⟩ (fun r1 u1 H locs h1 hP hD hS => ?_)
  obtain ⟨n1, kn1, M1, C1⟩ := u1
  have hP : va_P D vwCl (hwW cI cJ cG (mwW cI cJ cG [(o_, .inl (cJ, 1, .inr (.inl ov)))] m_ md_ mw_ mv_ mk_ mr_ mo_ mf_ mb_ mx_ mp_ K n dn wn vn tk kn M wo le kd px F fc ft rw lb) h_ c_ d_ w_ v_ t_ rk_ ro_ rc_ al_ b_ ka_ na_ jo_ me_ wo_ fd_ nr_ nc_ sc_ ar ac K n1 dn wn vn tk kn1 M1 C1 al kd me px pcs bt wo le F 0 nr nc sc) H := hP
  have hD : va_D A (hwW cI cJ cG (mwW cI cJ cG [(o_, .inl (cJ, 1, .inr (.inl ov)))] m_ md_ mw_ mv_ mk_ mr_ mo_ mf_ mb_ mx_ mp_ K n dn wn vn tk kn M wo le kd px F fc ft rw lb) h_ c_ d_ w_ v_ t_ rk_ ro_ rc_ al_ b_ ka_ na_ jo_ me_ wo_ fd_ nr_ nc_ sc_ ar ac K n1 dn wn vn tk kn1 M1 C1 al kd me px pcs bt wo le F 0 nr nc sc) := hD
  refine lv_aload_n hx hb dL_law_838 rfl (lv_at hl 2 rfl) ?_
  have hP := hm_P hP
  have hD := hm_D hD
  have hP : va_P D vwCl (mwW cI cJ cG (hwW cI cJ cG [(o_, .inl (cJ, 1, .inr (.inl ov)))] h_ c_ d_ w_ v_ t_ rk_ ro_ rc_ al_ b_ ka_ na_ jo_ me_ wo_ fd_ nr_ nc_ sc_ ar ac K n1 dn wn vn tk kn1 M1 C1 al kd me px pcs bt wo le F 0 nr nc sc) m_ md_ mw_ mv_ mk_ mr_ mo_ mf_ mb_ mx_ mp_ K n dn wn vn tk kn M wo le kd px F fc ft rw lb) H := hP
  have hD : va_D A (mwW cI cJ cG (hwW cI cJ cG [(o_, .inl (cJ, 1, .inr (.inl ov)))] h_ c_ d_ w_ v_ t_ rk_ ro_ rc_ al_ b_ ka_ na_ jo_ me_ wo_ fd_ nr_ nc_ sc_ ar ac K n1 dn wn vn tk kn1 M1 C1 al kd me px pcs bt wo le F 0 nr nc sc) m_ md_ mw_ mv_ mk_ mr_ mo_ mf_ mb_ mx_ mp_ K n dn wn vn tk kn M wo le kd px F fc ft rw lb) := hD
  refine gc_Vi (As := []) (rest := [.int r1]) (ci := 5) (q0 := 0) ⟨hx, hb, hml, hown, hts⟩ (c_X4_open l D cI cJ cG H.size (hwW cI cJ cG [(o_, .inl (cJ, 1, .inr (.inl ov)))] h_ c_ d_ w_ v_ t_ rk_ ro_ rc_ al_ b_ ka_ na_ jo_ me_ wo_ fd_ nr_ nc_ sc_ ar ac K n1 dn wn vn tk kn1 M1 C1 al kd me px pcs bt wo le F 0 nr nc sc) m_ md_ mw_ mv_ mk_ mr_ mo_ mf_ mb_ mx_ mp_ K n dn wn vn tk kn M wo le kd px F fc ft rw lb  hLI.m) (cwV 0 hts gL_law_X4_open rfl rfl rfl (by decide +kernel) ⟨Nat.le_of_ble_eq_true rfl, Nat.le_of_ble_eq_true rfl⟩) rfl rfl rfl hK hP hD hS hA rfl hl.1 rfl (Nat.le_of_ble_eq_true rfl) dL_law_839 ⟨hc0, hs0⟩ (fun r2 u2 H locs h2 hP hD hS => ?_)
  obtain ⟨n2, kn2, M2⟩ := u2
  have hP : va_P D vwCl (mwW cI cJ cG (hwW cI cJ cG [(o_, .inl (cJ, 1, .inr (.inl ov)))] h_ c_ d_ w_ v_ t_ rk_ ro_ rc_ al_ b_ ka_ na_ jo_ me_ wo_ fd_ nr_ nc_ sc_ ar ac K n1 dn wn vn tk kn1 M1 C1 al kd me px pcs bt wo le F 0 nr nc sc) m_ md_ mw_ mv_ mk_ mr_ mo_ mf_ mb_ mx_ mp_ K n2 dn wn vn tk kn2 M2 wo le kd px F 0 0 rw lb) H := hP
  have hD : va_D A (mwW cI cJ cG (hwW cI cJ cG [(o_, .inl (cJ, 1, .inr (.inl ov)))] h_ c_ d_ w_ v_ t_ rk_ ro_ rc_ al_ b_ ka_ na_ jo_ me_ wo_ fd_ nr_ nc_ sc_ ar ac K n1 dn wn vn tk kn1 M1 C1 al kd me px pcs bt wo le F 0 nr nc sc) m_ md_ mw_ mv_ mk_ mr_ mo_ mf_ mb_ mx_ mp_ K n2 dn wn vn tk kn2 M2 wo le kd px F 0 0 rw lb) := hD
  have hreq : r1 = r2 := by (rcases h1 with ⟨hf, g1, e1⟩ | ⟨hf, g1, e1⟩ <;> rcases h2 with ⟨hf2, g2, e2⟩ | ⟨hf2, g2, e2⟩ <;> first | (rw [g1, g2]; done) | exact absurd hf hf2 | exact absurd hf2 hf)
  refine lv_icmp_eq (tgt := 847) hx hb dL_law_842 (by decide) (fun c9 => ?_) (fun c9 => absurd hreq c9)
  refine W.widen (k := cells + 1) (n := slots + 6) (by show _ ≤ cells + 1; omega) (by show _ ≤ slots + 6; omega) ?_
  rcases h1 with ⟨hf, g1, e1⟩ | ⟨hf, g1, e1⟩
  · rcases h2 with ⟨-, g2, e2⟩ | ⟨hf2, -, -⟩
    · cases e1
      cases e2
      exact kb (F 1) dn wn vn tk (fu (ldK F) kn (F 1)) (fu (ldM F M) M (F 1)) (fu (ldC F M C) C (F 1)) al kd me px pcs bt wo le F 0 nr nc sc 0 rw lb ov (hLI.opn hf) H locs ls hP hD hS (lv_sub hl [0, 1, 2, 3, 4] rfl)
    · exact absurd hf hf2
  · rcases h2 with ⟨hf2, -, -⟩ | ⟨-, g2, e2⟩
    · exact absurd hf2 hf
    · cases e1
      cases e2
      exact kb _ _ _ _ _ _ _ _ _ _ _ _ _ _ _ _ _ _ _ _ _ _ _ _ _ (hLI.fd hLI.h.2.2.2.2.2.1.1 (Nat.zero_le _)) H locs ls hP hD hS (lv_sub hl [0, 1, 2, 3, 4] rfl)
end LAWC
