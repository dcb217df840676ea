section LAWC
variable {p : Program} {l : Launch} {e : Env} {s : State} {m : MethodId} {below : List Frame} {meth : Method} {c : Code} {H : Heap} {locs : List Loc} {cells slots : Nat} {Q : State → Prop} {ls : Array Slot} {D : va_G} {A : Nat → Prop} {cI cJ cG : ClassId} {b L i : Nat} {xs : Nat → Int32} {h_ c_ d_ w_ v_ t_ rk_ ro_ rc_ al_ b_ ka_ na_ jo_ me_ wo_ fd_ nr_ nc_ sc_ o_ m_ md_ mw_ mv_ mk_ mr_ mo_ mf_ mb_ mx_ mp_ : Nat} {ar ac : Nat → Nat} {K : Nat} {n : Nat} {dn : Nat → Nat} {wn : Nat → Nat} {vn : Nat → Nat} {tk : Int64} {kn : Nat → Nat} {M : Nat → Nat → Nat} {C : Nat → Nat → Nat} {al : Nat → Nat} {kd : Nat → Nat} {me : Nat → Nat} {px : Nat} {pcs : Nat} {bt : Bst} {wo : Nat → Int64} {le : Int64} {F : Nat → Nat} {fc : Nat} {nr : Nat → Nat} {nc : Nat → Nat} {sc : Nat → Nat} {ft : Nat} {rw : Nat → Nat} {lb : Nat → Nat} {ov : Nat → Int64}
set_option maxHeartbeats 4000000 in
set_option maxRecDepth 100000 in
theorem lc_teach (hx : p.tables.exec = Jvm.exec) (hb : c.code = cL_law) (hml : c.maxLocals = 7) (hown : s.vm.findClass RL = some m.cls) (hts : ∀ w ∈ wsL_law, w.before #[Value.ref b] s = true) (hX : va_X b L xs s s.heap) (hbl : b < s.heap.size) (hbA : ¬ A b) (hA : ∀ q, s.heap.size ≤ q → A q) (hK : va_K D vwCl (tyl cI cJ cG) s) (hi : i + 4 < L) (hL : L ≤ 2561) (hLI : LI K n dn wn vn kn M C kd px pcs bt F fc nr nc rw lb) (hcs : cells + 1 ≤ 601024 ∧ slots + 6 ≤ 7293000) (hP : va_P D vwCl (hwW cI cJ cG (mwW cI cJ cG [(o_, .inl (cJ, 1, .inr (.inl ov)))] m_ md_ mw_ mv_ mk_ mr_ mo_ mf_ mb_ mx_ mp_ K n dn wn vn tk kn M wo le kd px F fc ft rw lb) h_ c_ d_ w_ v_ t_ rk_ ro_ rc_ al_ b_ ka_ na_ jo_ me_ wo_ fd_ nr_ nc_ sc_ ar ac K n dn wn vn tk kn M C al kd me px pcs bt wo le F fc nr nc sc) H) (hD : va_D A (hwW cI cJ cG (mwW cI cJ cG [(o_, .inl (cJ, 1, .inr (.inl ov)))] m_ md_ mw_ mv_ mk_ mr_ mo_ mf_ mb_ mx_ mp_ K n dn wn vn tk kn M wo le kd px F fc ft rw lb) h_ c_ d_ w_ v_ t_ rk_ ro_ rc_ al_ b_ ka_ na_ jo_ me_ wo_ fd_ nr_ nc_ sc_ ar ac K n dn wn vn tk kn M C al kd me px pcs bt wo le F fc nr nc sc)) (hS : va_S A s.heap H locs) (hl : lv_has ls 7 [(0, .ref b), (1, .ref h_), (2, .ref m_), (3, .ref o_), (4, .int (nI i))]) (kb : ∀ (n : Nat) (dn : Nat → Nat) (wn : Nat → Nat) (vn : Nat → Nat) (tk : Int64) (kn : Nat → Nat) (M : Nat → Nat → Nat) (C : Nat → Nat → Nat) (al : Nat → Nat) (kd : Nat → Nat) (me : Nat → Nat) (px : Nat) (pcs : Nat) (bt : Bst) (wo : Nat → Int64) (le : Int64) (F : Nat → Nat) (fc : Nat) (nr : Nat → Nat) (nc : Nat → Nat) (sc : Nat → Nat) (ft : Nat) (rw : Nat → Nat) (lb : Nat → Nat) (ov : Nat → Int64), LI K n dn wn vn kn M C kd px pcs bt F fc nr nc rw lb → ∀ (H : Heap) (locs : List Loc) (ls : Array Slot), va_P D vwCl (mwW cI cJ cG (hwW cI cJ cG [(o_, .inl (cJ, 1, .inr (.inl ov)))] h_ c_ d_ w_ v_ t_ rk_ ro_ rc_ al_ b_ ka_ na_ jo_ me_ wo_ fd_ nr_ nc_ sc_ ar ac K n dn wn vn tk kn M C al kd me px pcs bt wo le F fc nr nc sc) m_ md_ mw_ mv_ mk_ mr_ mo_ mf_ mb_ mx_ mp_ K n dn wn vn tk kn M wo le kd px F fc ft rw lb) H → va_D A (mwW cI cJ cG (hwW cI cJ cG [(o_, .inl (cJ, 1, .inr (.inl ov)))] h_ c_ d_ w_ v_ t_ rk_ ro_ rc_ al_ b_ ka_ na_ jo_ me_ wo_ fd_ nr_ nc_ sc_ ar ac K n dn wn vn tk kn M C al kd me px pcs bt wo le F fc nr nc sc) m_ md_ mw_ mv_ mk_ mr_ mo_ mf_ mb_ mx_ mp_ K n dn wn vn tk kn M wo le kd px F fc ft rw lb) → va_S A s.heap H locs → lv_has ls 7 [(0, .ref b), (1, .ref h_), (2, .ref m_), (3, .ref o_), (4, .int (nI i))] → W p l e room_1 s m #[Value.ref b] below meth c H locs (cells + 1) (slots + 6) Q (F0 m 847 ls [])) : W p l e room_1 s m #[Value.ref b] below meth c H locs cells slots Q (F0 m 370 ls []) := by
  have hc0 : cells + 0 ≤ room_1.cells := by show cells + 0 ≤ 601024; omega
  have hs0 : slots + 0 ≤ room_1.slots := by show slots + 0 ≤ 7293000; omega
  refine lv_aload_n hx hb dL_law_370 rfl (lv_at hl 1 rfl) ?_
  refine lv_aload_n hx hb dL_law_371 rfl (lv_at hl 0 rfl) ?_
  refine lv_iload hx hb dL_law_372 (lv_at hl 4 rfl) ?_
  refine lv_iconst (v := 1) hx hb dL_law_374 (by decide) ?_
  refine lv_iadd hx hb dL_law_375 ?_
  refine lv_topi (fun x375 ex375 => ?_)
  obtain rfl : x375 = nI (i + 1) := by rw [ex375]; exact nI_add i 1
  refine va_sld hx hb hX hbl hbA hS (vp_in_nI (by omega) (by omega)) dL_law_376 ?_
  refine lv_topi (fun x376 ex376 => ?_)
  obtain rfl : x376 = xs (i + 1) := by rw [ex376, nI_clamp (by omega)]
  refine gc_Vi (As := [.int (xs (i + 1))]) (rest := []) (ci := 4) (q0 := 0) ⟨hx, hb, hml, hown, hts⟩ (c_X3_teach l D cI cJ cG H.size (mwW cI cJ cG [(o_, .inl (cJ, 1, .inr (.inl ov)))] m_ md_ mw_ mv_ mk_ mr_ mo_ mf_ mb_ mx_ mp_ K n dn wn vn tk kn M wo le kd px F fc ft rw lb) h_ c_ d_ w_ v_ t_ rk_ ro_ rc_ al_ b_ ka_ na_ jo_ me_ wo_ fd_ nr_ nc_ sc_ ar ac K n dn wn vn tk kn M C al kd me px pcs bt wo le F fc nr nc sc (xs (i + 1)) hLI.h) (cwV 1 hts gL_law_X3_teach rfl rfl rfl (by decide +kernel) ⟨Nat.le_of_ble_eq_true rfl, Nat.le_of_ble_eq_true rfl⟩) rfl rfl rfl hK hP hD hS hA rfl hl.1 rfl (Nat.le_of_ble_eq_true rfl) dL_law_377 ⟨hc0, hs0⟩ (fun r1 u1 H locs h1 hP hD hS => ?_)
  obtain ⟨⟨n1, kn1, M1, C1⟩, nr1, nc1⟩ := u1
  obtain ⟨g1, e1, b1, b1'⟩ := h1
  have hP : va_P D vwCl (hwW cI cJ cG (mwW cI cJ cG [(o_, .inl (cJ, 1, .inr (.inl ov)))] m_ md_ mw_ mv_ mk_ mr_ mo_ mf_ mb_ mx_ mp_ K n dn wn vn tk kn M wo le kd px F fc ft rw lb) h_ c_ d_ w_ v_ t_ rk_ ro_ rc_ al_ b_ ka_ na_ jo_ me_ wo_ fd_ nr_ nc_ sc_ ar ac K n1 dn wn vn tk kn1 M1 C1 al kd me px pcs bt wo le F fc nr1 nc1 sc) H := hP
  have hD : va_D A (hwW cI cJ cG (mwW cI cJ cG [(o_, .inl (cJ, 1, .inr (.inl ov)))] m_ md_ mw_ mv_ mk_ mr_ mo_ mf_ mb_ mx_ mp_ K n dn wn vn tk kn M wo le kd px F fc ft rw lb) h_ c_ d_ w_ v_ t_ rk_ ro_ rc_ al_ b_ ka_ na_ jo_ me_ wo_ fd_ nr_ nc_ sc_ ar ac K n1 dn wn vn tk kn1 M1 C1 al kd me px pcs bt wo le F fc nr1 nc1 sc) := hD
  refine lv_aload_n hx hb dL_law_380 rfl (lv_at hl 2 rfl) ?_
  refine lv_aload_n hx hb dL_law_381 rfl (lv_at hl 0 rfl) ?_
  refine lv_iload hx hb dL_law_382 (lv_at hl 4 rfl) ?_
  refine lv_iconst (v := 1) hx hb dL_law_384 (by decide) ?_
  refine lv_iadd hx hb dL_law_385 ?_
  refine lv_topi (fun x385 ex385 => ?_)
  obtain rfl : x385 = nI (i + 1) := by rw [ex385]; exact nI_add i 1
  refine va_sld hx hb hX hbl hbA hS (vp_in_nI (by omega) (by omega)) dL_law_386 ?_
  refine lv_topi (fun x386 ex386 => ?_)
  obtain rfl : x386 = xs (i + 1) := by rw [ex386, nI_clamp (by omega)]
  have hP := hm_P hP
  have hD := hm_D hD
  have hP : va_P D vwCl (mwW cI cJ cG (hwW cI cJ cG [(o_, .inl (cJ, 1, .inr (.inl ov)))] h_ c_ d_ w_ v_ t_ rk_ ro_ rc_ al_ b_ ka_ na_ jo_ me_ wo_ fd_ nr_ nc_ sc_ ar ac K n1 dn wn vn tk kn1 M1 C1 al kd me px pcs bt wo le F fc nr1 nc1 sc) m_ md_ mw_ mv_ mk_ mr_ mo_ mf_ mb_ mx_ mp_ K n dn wn vn tk kn M wo le kd px F fc ft rw lb) H := hP
  have hD : va_D A (mwW cI cJ cG (hwW cI cJ cG [(o_, .inl (cJ, 1, .inr (.inl ov)))] h_ c_ d_ w_ v_ t_ rk_ ro_ rc_ al_ b_ ka_ na_ jo_ me_ wo_ fd_ nr_ nc_ sc_ ar ac K n1 dn wn vn tk kn1 M1 C1 al kd me px pcs bt wo le F fc nr1 nc1 sc) m_ md_ mw_ mv_ mk_ mr_ mo_ mf_ mb_ mx_ mp_ K n dn wn vn tk kn M wo le kd px F fc ft rw lb) := hD
  refine gc_Vi (As := [.int (xs (i + 1))]) (rest := [.int r1]) (ci := 5) (q0 := 0) ⟨hx, hb, hml, hown, hts⟩ (c_X4_teach l D cI cJ cG H.size (hwW cI cJ cG [(o_, .inl (cJ, 1, .inr (.inl ov)))] h_ c_ d_ w_ v_ t_ rk_ ro_ rc_ al_ b_ ka_ na_ jo_ me_ wo_ fd_ nr_ nc_ sc_ ar ac K n1 dn wn vn tk kn1 M1 C1 al kd me px pcs bt wo le F fc nr1 nc1 sc) m_ md_ mw_ mv_ mk_ mr_ mo_ mf_ mb_ mx_ mp_ K n dn wn vn tk kn M wo le kd px F fc ft rw lb (xs (i + 1)) hLI.m) (cwV 1 hts gL_law_X4_teach rfl rfl rfl (by decide +kernel) ⟨Nat.le_of_ble_eq_true rfl, Nat.le_of_ble_eq_true rfl⟩) rfl rfl rfl hK hP hD hS hA rfl hl.1 rfl (Nat.le_of_ble_eq_true rfl) dL_law_387 ⟨hc0, hs0⟩ (fun r2 u2 H locs h2 hP hD hS => ?_)
  obtain ⟨⟨n2, kn2, M2⟩, rw2⟩ := u2
  obtain ⟨g2, e2, b2⟩ := h2
  have hP : va_P D vwCl (mwW cI cJ cG (hwW cI cJ cG [(o_, .inl (cJ, 1, .inr (.inl ov)))] h_ c_ d_ w_ v_ t_ rk_ ro_ rc_ al_ b_ ka_ na_ jo_ me_ wo_ fd_ nr_ nc_ sc_ ar ac K n1 dn wn vn tk kn1 M1 C1 al kd me px pcs bt wo le F fc nr1 nc1 sc) m_ md_ mw_ mv_ mk_ mr_ mo_ mf_ mb_ mx_ mp_ K n2 dn wn vn tk kn2 M2 wo le kd px F fc 0 rw2 lb) H := hP
  have hD : va_D A (mwW cI cJ cG (hwW cI cJ cG [(o_, .inl (cJ, 1, .inr (.inl ov)))] h_ c_ d_ w_ v_ t_ rk_ ro_ rc_ al_ b_ ka_ na_ jo_ me_ wo_ fd_ nr_ nc_ sc_ ar ac K n1 dn wn vn tk kn1 M1 C1 al kd me px pcs bt wo le F fc nr1 nc1 sc) m_ md_ mw_ mv_ mk_ mr_ mo_ mf_ mb_ mx_ mp_ K n2 dn wn vn tk kn2 M2 wo le kd px F fc 0 rw2 lb) := hD
  have hreq : r1 = r2 := by rw [g1, g2]
  refine lv_icmp_eq (tgt := 847) hx hb dL_law_390 (by decide) (fun c9 => ?_) (fun c9 => absurd hreq c9)
  refine W.widen (k := cells + 1) (n := slots + 6) (by show _ ≤ cells + 1; omega) (by show _ ≤ slots + 6; omega) ?_
  by_cases hc : (inB (xs (i + 1)) K && decide (n < 40)) = true
  · rw [if_pos hc] at e1 e2
    have e1 := e1.symm
    have e2 := e2.symm
    cases e1
    cases e2
    exact kb (n + 1) dn wn vn tk (un kn n (xs (i + 1)).toNatClampNeg) (tcM dn wn vn M n) (tcC dn wn vn M C n) al kd me px pcs bt wo le F fc nr1 nc1 sc 0 rw2 lb ov ((hLI.teach hc).rows b1 b1' b2 hLI.2.1.2) H locs ls hP hD hS (lv_sub hl [0, 1, 2, 3, 4] rfl)
  · rw [if_neg hc] at e1 e2
    have e1 := e1.symm
    have e2 := e2.symm
    cases e1
    cases e2
    exact kb _ _ _ _ _ _ _ _ _ _ _ _ _ _ _ _ _ _ _ _ _ _ _ _ _ (hLI.rows b1 b1' b2 hLI.2.1.2) H locs ls hP hD hS (lv_sub hl [0, 1, 2, 3, 4] rfl)
set_option maxHeartbeats 4000000 in
set_option maxRecDepth 100000 in
theorem lc_read (hx : p.tables.exec = Jvm.exec) (hb : c.code = cL_law) (hml : c.maxLocals = 7) (hown : s.vm.findClass RL = some m.cls) (hts : ∀ w ∈ wsL_law, w.before #[Value.ref b] s = true) (hX : va_X b L xs s s.heap) (hbl : b < s.heap.size) (hbA : ¬ A b) (hA : ∀ q, s.heap.size ≤ q → A q) (hK : va_K D vwCl (tyl cI cJ cG) s) (hi : i + 4 < L) (hL : L ≤ 2561) (hLI : LI K n dn wn vn kn M C kd px pcs bt F fc nr nc rw lb) (hcs : cells + 1 ≤ 601024 ∧ slots + 6 ≤ 7293000) (hP : va_P D vwCl (hwW cI cJ cG (mwW cI cJ cG [(o_, .inl (cJ, 1, .inr (.inl ov)))] m_ md_ mw_ mv_ mk_ mr_ mo_ mf_ mb_ mx_ mp_ K n dn wn vn tk kn M wo le kd px F fc ft rw lb) h_ c_ d_ w_ v_ t_ rk_ ro_ rc_ al_ b_ ka_ na_ jo_ me_ wo_ fd_ nr_ nc_ sc_ ar ac K n dn wn vn tk kn M C al kd me px pcs bt wo le F fc nr nc sc) H) (hD : va_D A (hwW cI cJ cG (mwW cI cJ cG [(o_, .inl (cJ, 1, .inr (.inl ov)))] m_ md_ mw_ mv_ mk_ mr_ mo_ mf_ mb_ mx_ mp_ K n dn wn vn tk kn M wo le kd px F fc ft rw lb) h_ c_ d_ w_ v_ t_ rk_ ro_ rc_ al_ b_ ka_ na_ jo_ me_ wo_ fd_ nr_ nc_ sc_ ar ac K n dn wn vn tk kn M C al kd me px pcs bt wo le F fc nr nc sc)) (hS : va_S A s.heap H locs) (hl : lv_has ls 7 [(0, .ref b), (1, .ref h_), (2, .ref m_), (3, .ref o_), (4, .int (nI i))]) (kb : ∀ (n : Nat) (dn : Nat → Nat) (wn : Nat → Nat) (vn : Nat → Nat) (tk : Int64) (kn : Nat → Nat) (M : Nat → Nat → Nat) (C : Nat → Nat → Nat) (al : Nat → Nat) (kd : Nat → Nat) (me : Nat → Nat) (px : Nat) (pcs : Nat) (bt : Bst) (wo : Nat → Int64) (le : Int64) (F : Nat → Nat) (fc : Nat) (nr : Nat → Nat) (nc : Nat → Nat) (sc : Nat → Nat) (ft : Nat) (rw : Nat → Nat) (lb : Nat → Nat) (ov : Nat → Int64), LI K n dn wn vn kn M C kd px pcs bt F fc nr nc rw lb → ∀ (H : Heap) (locs : List Loc) (ls : Array Slot), va_P D vwCl (mwW cI cJ cG (hwW cI cJ cG [(o_, .inl (cJ, 1, .inr (.inl ov)))] h_ c_ d_ w_ v_ t_ rk_ ro_ rc_ al_ b_ ka_ na_ jo_ me_ wo_ fd_ nr_ nc_ sc_ ar ac K n dn wn vn tk kn M C al kd me px pcs bt wo le F fc nr nc sc) m_ md_ mw_ mv_ mk_ mr_ mo_ mf_ mb_ mx_ mp_ K n dn wn vn tk kn M wo le kd px F fc ft rw lb) H → va_D A (mwW cI cJ cG (hwW cI cJ cG [(o_, .inl (cJ, 1, .inr (.inl ov)))] h_ c_ d_ w_ v_ t_ rk_ ro_ rc_ al_ b_ ka_ na_ jo_ me_ wo_ fd_ nr_ nc_ sc_ ar ac K n dn wn vn tk kn M C al kd me px pcs bt wo le F fc nr nc sc) m_ md_ mw_ mv_ mk_ mr_ mo_ mf_ mb_ mx_ mp_ K n dn wn vn tk kn M wo le kd px F fc ft rw lb) → va_S A s.heap H locs → lv_has ls 7 [(0, .ref b), (1, .ref h_), (2, .ref m_), (3, .ref o_), (4, .int (nI i))] → W p l e room_1 s m #[Value.ref b] below meth c H locs (cells + 1) (slots + 6) Q (F0 m 847 ls [])) : W p l e room_1 s m #[Value.ref b] below meth c H locs cells slots Q (F0 m 395 ls []) := by
  have hc0 : cells + 0 ≤ room_1.cells := by show cells + 0 ≤ 601024; omega
  have hs0 : slots + 0 ≤ room_1.slots := by show slots + 0 ≤ 7293000; omega
  refine lv_aload_n hx hb dL_law_395 rfl (lv_at hl 1 rfl) ?_
  refine gc_Vi (As := []) (rest := []) (ci := 4) (q0 := 0) ⟨hx, hb, hml, hown, hts⟩ (c_X3_read l D cI cJ cG H.size (mwW cI cJ cG [(o_, .inl (cJ, 1, .inr (.inl ov)))] m_ md_ mw_ mv_ mk_ mr_ mo_ mf_ mb_ mx_ mp_ K n dn wn vn tk kn M wo le kd px F fc ft rw lb) h_ c_ d_ w_ v_ t_ rk_ ro_ rc_ al_ b_ ka_ na_ jo_ me_ wo_ fd_ nr_ nc_ sc_ ar ac K n dn wn vn tk kn M C al kd me px pcs bt wo le F fc nr nc sc  hLI.h) (cwV 0 hts gL_law_X3_read rfl rfl rfl (by decide +kernel) ⟨Nat.le_of_ble_eq_true rfl, Nat.le_of_ble_eq_true rfl⟩) rfl rfl rfl hK hP hD hS hA rfl hl.1 rfl (Nat.le_of_ble_eq_true rfl) dL_law_396 ⟨hc0, hs0⟩ (fun r1 u1 H locs h1 hP hD hS => ?_)
  obtain ⟨al1, sc1, nr1, nc1⟩ := u1
  obtain ⟨g1, b1, b1'⟩ := h1
  have hP : va_P D vwCl (hwW cI cJ cG (mwW cI cJ cG [(o_, .inl (cJ, 1, .inr (.inl ov)))] m_ md_ mw_ mv_ mk_ mr_ mo_ mf_ mb_ mx_ mp_ K n dn wn vn tk kn M wo le kd px F fc ft rw lb) h_ c_ d_ w_ v_ t_ rk_ ro_ rc_ al_ b_ ka_ na_ jo_ me_ wo_ fd_ nr_ nc_ sc_ ar ac K n dn wn vn tk kn M C al1 kd me px pcs bt wo le F fc nr1 nc1 sc1) H := hP
  have hD : va_D A (hwW cI cJ cG (mwW cI cJ cG [(o_, .inl (cJ, 1, .inr (.inl ov)))] m_ md_ mw_ mv_ mk_ mr_ mo_ mf_ mb_ mx_ mp_ K n dn wn vn tk kn M wo le kd px F fc ft rw lb) h_ c_ d_ w_ v_ t_ rk_ ro_ rc_ al_ b_ ka_ na_ jo_ me_ wo_ fd_ nr_ nc_ sc_ ar ac K n dn wn vn tk kn M C al1 kd me px pcs bt wo le F fc nr1 nc1 sc1) := hD
  refine lv_aload_n hx hb dL_law_399 rfl (lv_at hl 2 rfl) ?_
  have hP := hm_P hP
  have hD := hm_D hD
  have hP : va_P D vwCl (mwW cI cJ cG (hwW cI cJ cG [(o_, .inl (cJ, 1, .inr (.inl ov)))] h_ c_ d_ w_ v_ t_ rk_ ro_ rc_ al_ b_ ka_ na_ jo_ me_ wo_ fd_ nr_ nc_ sc_ ar ac K n dn wn vn tk kn M C al1 kd me px pcs bt wo le F fc nr1 nc1 sc1) m_ md_ mw_ mv_ mk_ mr_ mo_ mf_ mb_ mx_ mp_ K n dn wn vn tk kn M wo le kd px F fc ft rw lb) H := hP
  have hD : va_D A (mwW cI cJ cG (hwW cI cJ cG [(o_, .inl (cJ, 1, .inr (.inl ov)))] h_ c_ d_ w_ v_ t_ rk_ ro_ rc_ al_ b_ ka_ na_ jo_ me_ wo_ fd_ nr_ nc_ sc_ ar ac K n dn wn vn tk kn M C al1 kd me px pcs bt wo le F fc nr1 nc1 sc1) m_ md_ mw_ mv_ mk_ mr_ mo_ mf_ mb_ mx_ mp_ K n dn wn vn tk kn M wo le kd px F fc ft rw lb) := hD
  refine gc_Vi (As := []) (rest := [.int r1]) (ci := 5) (q0 := 0) ⟨hx, hb, hml, hown, hts⟩ (c_X4_read l D cI cJ cG H.size (hwW cI cJ cG [(o_, .inl (cJ, 1, .inr (.inl ov)))] h_ c_ d_ w_ v_ t_ rk_ ro_ rc_ al_ b_ ka_ na_ jo_ me_ wo_ fd_ nr_ nc_ sc_ ar ac K n dn wn vn tk kn M C al1 kd me px pcs bt wo le F fc nr1 nc1 sc1) m_ md_ mw_ mv_ mk_ mr_ mo_ mf_ mb_ mx_ mp_ K n dn wn vn tk kn M wo le kd px F fc ft rw lb  hLI.m) (cwV 0 hts gL_law_X4_read rfl rfl rfl (by decide +kernel) ⟨Nat.le_of_ble_eq_true rfl, Nat.le_of_ble_eq_true rfl⟩) rfl rfl rfl hK hP hD hS hA rfl hl.1 rfl (Nat.le_of_ble_eq_true rfl) dL_law_400 ⟨hc0, hs0⟩ (fun r2 u2 H locs h2 hP hD hS => ?_)
  have hP : va_P D vwCl (mwW cI cJ cG (hwW cI cJ cG [(o_, .inl (cJ, 1, .inr (.inl ov)))] h_ c_ d_ w_ v_ t_ rk_ ro_ rc_ al_ b_ ka_ na_ jo_ me_ wo_ fd_ nr_ nc_ sc_ ar ac K n dn wn vn tk kn M C al1 kd me px pcs bt wo le F fc nr1 nc1 sc1) m_ md_ mw_ mv_ mk_ mr_ mo_ mf_ mb_ mx_ mp_ K n dn wn vn tk kn M wo le kd px F fc 0 (fu (rwN dn wn vn) rw 8) lb) H := hP
  have hD : va_D A (mwW cI cJ cG (hwW cI cJ cG [(o_, .inl (cJ, 1, .inr (.inl ov)))] h_ c_ d_ w_ v_ t_ rk_ ro_ rc_ al_ b_ ka_ na_ jo_ me_ wo_ fd_ nr_ nc_ sc_ ar ac K n dn wn vn tk kn M C al1 kd me px pcs bt wo le F fc nr1 nc1 sc1) m_ md_ mw_ mv_ mk_ mr_ mo_ mf_ mb_ mx_ mp_ K n dn wn vn tk kn M wo le kd px F fc 0 (fu (rwN dn wn vn) rw 8) lb) := hD
  have hreq : r1 = r2 := by rw [g1, h2]; exact hLI.rd
  refine lv_icmp_eq (tgt := 847) hx hb dL_law_403 (by decide) (fun c9 => ?_) (fun c9 => absurd hreq c9)
  refine W.widen (k := cells + 1) (n := slots + 6) (by show _ ≤ cells + 1; omega) (by show _ ≤ slots + 6; omega) ?_
  exact kb n dn wn vn tk kn M C al1 kd me px pcs bt wo le F fc nr1 nc1 sc1 0 (fu (rwN dn wn vn) rw 8) lb ov (hLI.rows b1 b1' (fun k => fu_le9 rw_le hLI.2.1.1) hLI.2.1.2) H locs ls hP hD hS (lv_sub hl [0, 1, 2, 3, 4] rfl)
set_option maxHeartbeats 4000000 in
set_option maxRecDepth 100000 in
theorem lc_sum (hx : p.tables.exec = Jvm.exec) (hb : c.code = cL_law) (hml : c.maxLocals = 7) (hown : s.vm.findClass RL = some m.cls) (hts : ∀ w ∈ wsL_law, w.before #[Value.ref b] s = true) (hX : va_X b L xs s s.heap) (hbl : b < s.heap.size) (hbA : ¬ A b) (hA : ∀ q, s.heap.size ≤ q → A q) (hK : va_K D vwCl (tyl cI cJ cG) s) (hi : i + 4 < L) (hL : L ≤ 2561) (hLI : LI K n dn wn vn kn M C kd px pcs bt F fc nr nc rw lb) (hcs : cells + 1 ≤ 601024 ∧ slots + 6 ≤ 7293000) (hP : va_P D vwCl (hwW cI cJ cG (mwW cI cJ cG [(o_, .inl (cJ, 1, .inr (.inl ov)))] m_ md_ mw_ mv_ mk_ mr_ mo_ mf_ mb_ mx_ mp_ K n dn wn vn tk kn M wo le kd px F fc ft rw lb) h_ c_ d_ w_ v_ t_ rk_ ro_ rc_ al_ b_ ka_ na_ jo_ me_ wo_ fd_ nr_ nc_ sc_ ar ac K n dn wn vn tk kn M C al kd me px pcs bt wo le F fc nr nc sc) H) (hD : va_D A (hwW cI cJ cG (mwW cI cJ cG [(o_, .inl (cJ, 1, .inr (.inl ov)))] m_ md_ mw_ mv_ mk_ mr_ mo_ mf_ mb_ mx_ mp_ K n dn wn vn tk kn M wo le kd px F fc ft rw lb) h_ c_ d_ w_ v_ t_ rk_ ro_ rc_ al_ b_ ka_ na_ jo_ me_ wo_ fd_ nr_ nc_ sc_ ar ac K n dn wn vn tk kn M C al kd me px pcs bt wo le F fc nr nc sc)) (hS : va_S A s.heap H locs) (hl : lv_has ls 7 [(0, .ref b), (1, .ref h_), (2, .ref m_), (3, .ref o_), (4, .int (nI i))]) (kb : ∀ (n : Nat) (dn : Nat → Nat) (wn : Nat → Nat) (vn : Nat → Nat) (tk : Int64) (kn : Nat → Nat) (M : Nat → Nat → Nat) (C : Nat → Nat → Nat) (al : Nat → Nat) (kd : Nat → Nat) (me : Nat → Nat) (px : Nat) (pcs : Nat) (bt : Bst) (wo : Nat → Int64) (le : Int64) (F : Nat → Nat) (fc : Nat) (nr : Nat → Nat) (nc : Nat → Nat) (sc : Nat → Nat) (ft : Nat) (rw : Nat → Nat) (lb : Nat → Nat) (ov : Nat → Int64), LI K n dn wn vn kn M C kd px pcs bt F fc nr nc rw lb → ∀ (H : Heap) (locs : List Loc) (ls : Array Slot), va_P D vwCl (mwW cI cJ cG (hwW cI cJ cG [(o_, .inl (cJ, 1, .inr (.inl ov)))] h_ c_ d_ w_ v_ t_ rk_ ro_ rc_ al_ b_ ka_ na_ jo_ me_ wo_ fd_ nr_ nc_ sc_ ar ac K n dn wn vn tk kn M C al kd me px pcs bt wo le F fc nr nc sc) m_ md_ mw_ mv_ mk_ mr_ mo_ mf_ mb_ mx_ mp_ K n dn wn vn tk kn M wo le kd px F fc ft rw lb) H → va_D A (mwW cI cJ cG (hwW cI cJ cG [(o_, .inl (cJ, 1, .inr (.inl ov)))] h_ c_ d_ w_ v_ t_ rk_ ro_ rc_ al_ b_ ka_ na_ jo_ me_ wo_ fd_ nr_ nc_ sc_ ar ac K n dn wn vn tk kn M C al kd me px pcs bt wo le F fc nr nc sc) m_ md_ mw_ mv_ mk_ mr_ mo_ mf_ mb_ mx_ mp_ K n dn wn vn tk kn M wo le kd px F fc ft rw lb) → va_S A s.heap H locs → lv_has ls 7 [(0, .ref b), (1, .ref h_), (2, .ref m_), (3, .ref o_), (4, .int (nI i))] → W p l e room_1 s m #[Value.ref b] below meth c H locs (cells + 1) (slots + 6) Q (F0 m 847 ls [])) : W p l e room_1 s m #[Value.ref b] below meth c H locs cells slots Q (F0 m 408 ls []) := by
  have hc0 : cells + 0 ≤ room_1.cells := by show cells + 0 ≤ 601024; omega
  have hs0 : slots + 0 ≤ room_1.slots := by show slots + 0 ≤ 7293000; omega
  refine lv_aload_n hx hb dL_law_408 rfl (lv_at hl 1 rfl) ?_
  refine lv_aload_n hx hb dL_law_409 rfl (lv_at hl 0 rfl) ?_
  refine lv_iload hx hb dL_law_410 (lv_at hl 4 rfl) ?_
  refine lv_iconst (v := 1) hx hb dL_law_412 (by decide) ?_
  refine lv_iadd hx hb dL_law_413 ?_
  refine lv_topi (fun x413 ex413 => ?_)
  obtain rfl : x413 = nI (i + 1) := by rw [ex413]; exact nI_add i 1
  refine va_sld hx hb hX hbl hbA hS (vp_in_nI (by omega) (by omega)) dL_law_414 ?_
  refine lv_topi (fun x414 ex414 => ?_)
  obtain rfl : x414 = xs (i + 1) := by rw [ex414, nI_clamp (by omega)]
  refine gc_Vl (As := [.int (xs (i + 1))]) (rest := []) (ci := 4) (q0 := 0) ⟨hx, hb, hml, hown, hts⟩ (c_X3_sum l D cI cJ cG H.size (mwW cI cJ cG [(o_, .inl (cJ, 1, .inr (.inl ov)))] m_ md_ mw_ mv_ mk_ mr_ mo_ mf_ mb_ mx_ mp_ K n dn wn vn tk kn M wo le kd px F fc ft rw lb) h_ c_ d_ w_ v_ t_ rk_ ro_ rc_ al_ b_ ka_ na_ jo_ me_ wo_ fd_ nr_ nc_ sc_ ar ac K n dn wn vn tk kn M C al kd me px pcs bt wo le F fc nr nc sc (xs (i + 1)) hLI.h) (cwV 1 hts gL_law_X3_sum rfl rfl rfl (by decide +kernel) ⟨Nat.le_of_ble_eq_true rfl, Nat.le_of_ble_eq_true rfl⟩) rfl rfl rfl hK hP hD hS hA rfl hl.1 rfl (Nat.le_of_ble_eq_true rfl) dL_law_415 ⟨hc0, hs0⟩ (fun r1 u1 H locs h1 hP hD hS => ?_)
  obtain ⟨al1, sc1, nr1, nc1⟩ := u1
  obtain ⟨g1, b1, b1'⟩ := h1
  have hP : va_P D vwCl (hwW cI cJ cG (mwW cI cJ cG [(o_, .inl (cJ, 1, .inr (.inl ov)))] m_ md_ mw_ mv_ mk_ mr_ mo_ mf_ mb_ mx_ mp_ K n dn wn vn tk kn M wo le kd px F fc ft rw lb) h_ c_ d_ w_ v_ t_ rk_ ro_ rc_ al_ b_ ka_ na_ jo_ me_ wo_ fd_ nr_ nc_ sc_ ar ac K n dn wn vn tk kn M C al1 kd me px pcs bt wo le F fc nr1 nc1 sc1) H := hP
  have hD : va_D A (hwW cI cJ cG (mwW cI cJ cG [(o_, .inl (cJ, 1, .inr (.inl ov)))] m_ md_ mw_ mv_ mk_ mr_ mo_ mf_ mb_ mx_ mp_ K n dn wn vn tk kn M wo le kd px F fc ft rw lb) h_ c_ d_ w_ v_ t_ rk_ ro_ rc_ al_ b_ ka_ na_ jo_ me_ wo_ fd_ nr_ nc_ sc_ ar ac K n dn wn vn tk kn M C al1 kd me px pcs bt wo le F fc nr1 nc1 sc1) := hD
  refine lv_aload_n hx hb dL_law_418 rfl (lv_at hl 2 rfl) ?_
  refine lv_aload_n hx hb dL_law_419 rfl (lv_at hl 0 rfl) ?_
  refine lv_iload hx hb dL_law_420 (lv_at hl 4 rfl) ?_
  refine lv_iconst (v := 1) hx hb dL_law_422 (by decide) ?_
  refine lv_iadd hx hb dL_law_423 ?_
  refine lv_topi (fun x423 ex423 => ?_)
  obtain rfl : x423 = nI (i + 1) := by rw [ex423]; exact nI_add i 1
  refine va_sld hx hb hX hbl hbA hS (vp_in_nI (by omega) (by omega)) dL_law_424 ?_
  refine lv_topi (fun x424 ex424 => ?_)
  obtain rfl : x424 = xs (i + 1) := by rw [ex424, nI_clamp (by omega)]
  have hP := hm_P hP
  have hD := hm_D hD
  have hP : va_P D vwCl (mwW cI cJ cG (hwW cI cJ cG [(o_, .inl (cJ, 1, .inr (.inl ov)))] h_ c_ d_ w_ v_ t_ rk_ ro_ rc_ al_ b_ ka_ na_ jo_ me_ wo_ fd_ nr_ nc_ sc_ ar ac K n dn wn vn tk kn M C al1 kd me px pcs bt wo le F fc nr1 nc1 sc1) m_ md_ mw_ mv_ mk_ mr_ mo_ mf_ mb_ mx_ mp_ K n dn wn vn tk kn M wo le kd px F fc ft rw lb) H := hP
  have hD : va_D A (mwW cI cJ cG (hwW cI cJ cG [(o_, .inl (cJ, 1, .inr (.inl ov)))] h_ c_ d_ w_ v_ t_ rk_ ro_ rc_ al_ b_ ka_ na_ jo_ me_ wo_ fd_ nr_ nc_ sc_ ar ac K n dn wn vn tk kn M C al1 kd me px pcs bt wo le F fc nr1 nc1 sc1) m_ md_ mw_ mv_ mk_ mr_ mo_ mf_ mb_ mx_ mp_ K n dn wn vn tk kn M wo le kd px F fc ft rw lb) := hD
  refine gc_Vl (As := [.int (xs (i + 1))]) (rest := [.long r1]) (ci := 5) (q0 := 0) ⟨hx, hb, hml, hown, hts⟩ (c_X4_sum l D cI cJ cG H.size (hwW cI cJ cG [(o_, .inl (cJ, 1, .inr (.inl ov)))] h_ c_ d_ w_ v_ t_ rk_ ro_ rc_ al_ b_ ka_ na_ jo_ me_ wo_ fd_ nr_ nc_ sc_ ar ac K n dn wn vn tk kn M C al1 kd me px pcs bt wo le F fc nr1 nc1 sc1) m_ md_ mw_ mv_ mk_ mr_ mo_ mf_ mb_ mx_ mp_ K n dn wn vn tk kn M wo le kd px F fc ft rw lb (xs (i + 1)) hLI.m) (cwV 1 hts gL_law_X4_sum rfl rfl rfl (by decide +kernel) ⟨Nat.le_of_ble_eq_true rfl, Nat.le_of_ble_eq_true rfl⟩) rfl rfl rfl hK hP hD hS hA rfl hl.1 rfl (Nat.le_of_ble_eq_true rfl) dL_law_425 ⟨hc0, hs0⟩ (fun r2 u2 H locs h2 hP hD hS => ?_)
  have hP : va_P D vwCl (mwW cI cJ cG (hwW cI cJ cG [(o_, .inl (cJ, 1, .inr (.inl ov)))] h_ c_ d_ w_ v_ t_ rk_ ro_ rc_ al_ b_ ka_ na_ jo_ me_ wo_ fd_ nr_ nc_ sc_ ar ac K n dn wn vn tk kn M C al1 kd me px pcs bt wo le F fc nr1 nc1 sc1) m_ md_ mw_ mv_ mk_ mr_ mo_ mf_ mb_ mx_ mp_ K n dn wn vn tk kn M wo le kd px F fc 0 (fu (rwN dn wn vn) rw 8) lb) H := hP
  have hD : va_D A (mwW cI cJ cG (hwW cI cJ cG [(o_, .inl (cJ, 1, .inr (.inl ov)))] h_ c_ d_ w_ v_ t_ rk_ ro_ rc_ al_ b_ ka_ na_ jo_ me_ wo_ fd_ nr_ nc_ sc_ ar ac K n dn wn vn tk kn M C al1 kd me px pcs bt wo le F fc nr1 nc1 sc1) m_ md_ mw_ mv_ mk_ mr_ mo_ mf_ mb_ mx_ mp_ K n dn wn vn tk kn M wo le kd px F fc 0 (fu (rwN dn wn vn) rw 8) lb) := hD
  have hreq : r1 = r2 := by rw [g1, h2, hLI.sum]
  refine W.lcmp hx hb dL_law_428 ?_
  refine lv_if_eq (tgt := 847) hx hb dL_law_429 (by decide) (fun c9 => ?_) (fun c9 => absurd ((lg_cmp_eq _ _).mpr hreq) c9)
  refine W.widen (k := cells + 1) (n := slots + 6) (by show _ ≤ cells + 1; omega) (by show _ ≤ slots + 6; omega) ?_
  exact kb n dn wn vn tk kn M C al1 kd me px pcs bt wo le F fc nr1 nc1 sc1 0 (fu (rwN dn wn vn) rw 8) lb ov (hLI.rows b1 b1' (fun k => fu_le9 rw_le hLI.2.1.1) hLI.2.1.2) H locs ls hP hD hS (lv_sub hl [0, 1, 2, 3, 4] rfl)
end LAWC
