section LAWC
variable {p : Program} {l : Launch} {e : Env} {s : State} {m : MethodId} {below : List Frame} {meth : Method} {c : Code} {H : Heap} {locs : List Loc} {cells slots : Nat} {Q : State → Prop} {ls : Array Slot} {D : va_G} {A : Nat → Prop} {cI cJ cG : ClassId} {b L i : Nat} {xs : Nat → Int32} {h_ c_ d_ w_ v_ t_ rk_ ro_ rc_ al_ b_ ka_ na_ jo_ me_ wo_ fd_ nr_ nc_ sc_ o_ m_ md_ mw_ mv_ mk_ mr_ mo_ mf_ mb_ mx_ mp_ : Nat} {ar ac : Nat → Nat} {K : Nat} {n : Nat} {dn : Nat → Nat} {wn : Nat → Nat} {vn : Nat → Nat} {tk : Int64} {kn : Nat → Nat} {M : Nat → Nat → Nat} {C : Nat → Nat → Nat} {al : Nat → Nat} {kd : Nat → Nat} {me : Nat → Nat} {px : Nat} {pcs : Nat} {bt : Bst} {wo : Nat → Int64} {le : Int64} {F : Nat → Nat} {fc : Nat} {nr : Nat → Nat} {nc : Nat → Nat} {sc : Nat → Nat} {ft : Nat} {rw : Nat → Nat} {lb : Nat → Nat} {ov : Nat → Int64}
set_option maxHeartbeats 4000000 in
set_option maxRecDepth 100000 in
theorem lc_bound (hx : p.tables.exec = Jvm.exec) (hb : c.code = cL_law) (hml : c.maxLocals = 7) (hown : s.vm.findClass RL = some m.cls) (hts : ∀ w ∈ wsL_law, w.before #[Value.ref b] s = true) (hX : va_X b L xs s s.heap) (hbl : b < s.heap.size) (hbA : ¬ A b) (hA : ∀ q, s.heap.size ≤ q → A q) (hK : va_K D vwCl (tyl cI cJ cG) s) (hi : i + 4 < L) (hL : L ≤ 2561) (hLI : LI K n dn wn vn kn M C kd px pcs bt F fc nr nc rw lb) (hcs : cells + 1 ≤ 601024 ∧ slots + 6 ≤ 7293000) (hP : va_P D vwCl (hwW cI cJ cG (mwW cI cJ cG [(o_, .inl (cJ, 1, .inr (.inl ov)))] m_ md_ mw_ mv_ mk_ mr_ mo_ mf_ mb_ mx_ mp_ K n dn wn vn tk kn M wo le kd px F fc ft rw lb) h_ c_ d_ w_ v_ t_ rk_ ro_ rc_ al_ b_ ka_ na_ jo_ me_ wo_ fd_ nr_ nc_ sc_ ar ac K n dn wn vn tk kn M C al kd me px pcs bt wo le F fc nr nc sc) H) (hD : va_D A (hwW cI cJ cG (mwW cI cJ cG [(o_, .inl (cJ, 1, .inr (.inl ov)))] m_ md_ mw_ mv_ mk_ mr_ mo_ mf_ mb_ mx_ mp_ K n dn wn vn tk kn M wo le kd px F fc ft rw lb) h_ c_ d_ w_ v_ t_ rk_ ro_ rc_ al_ b_ ka_ na_ jo_ me_ wo_ fd_ nr_ nc_ sc_ ar ac K n dn wn vn tk kn M C al kd me px pcs bt wo le F fc nr nc sc)) (hS : va_S A s.heap H locs) (hl : lv_has ls 7 [(0, .ref b), (1, .ref h_), (2, .ref m_), (3, .ref o_), (4, .int (nI i))]) (kb : ∀ (n : Nat) (dn : Nat → Nat) (wn : Nat → Nat) (vn : Nat → Nat) (tk : Int64) (kn : Nat → Nat) (M : Nat → Nat → Nat) (C : Nat → Nat → Nat) (al : Nat → Nat) (kd : Nat → Nat) (me : Nat → Nat) (px : Nat) (pcs : Nat) (bt : Bst) (wo : Nat → Int64) (le : Int64) (F : Nat → Nat) (fc : Nat) (nr : Nat → Nat) (nc : Nat → Nat) (sc : Nat → Nat) (ft : Nat) (rw : Nat → Nat) (lb : Nat → Nat) (ov : Nat → Int64), LI K n dn wn vn kn M C kd px pcs bt F fc nr nc rw lb → ∀ (H : Heap) (locs : List Loc) (ls : Array Slot), va_P D vwCl (mwW cI cJ cG (hwW cI cJ cG [(o_, .inl (cJ, 1, .inr (.inl ov)))] h_ c_ d_ w_ v_ t_ rk_ ro_ rc_ al_ b_ ka_ na_ jo_ me_ wo_ fd_ nr_ nc_ sc_ ar ac K n dn wn vn tk kn M C al kd me px pcs bt wo le F fc nr nc sc) m_ md_ mw_ mv_ mk_ mr_ mo_ mf_ mb_ mx_ mp_ K n dn wn vn tk kn M wo le kd px F fc ft rw lb) H → va_D A (mwW cI cJ cG (hwW cI cJ cG [(o_, .inl (cJ, 1, .inr (.inl ov)))] h_ c_ d_ w_ v_ t_ rk_ ro_ rc_ al_ b_ ka_ na_ jo_ me_ wo_ fd_ nr_ nc_ sc_ ar ac K n dn wn vn tk kn M C al kd me px pcs bt wo le F fc nr nc sc) m_ md_ mw_ mv_ mk_ mr_ mo_ mf_ mb_ mx_ mp_ K n dn wn vn tk kn M wo le kd px F fc ft rw lb) → va_S A s.heap H locs → lv_has ls 7 [(0, .ref b), (1, .ref h_), (2, .ref m_), (3, .ref o_), (4, .int (nI i))] → W p l e room_1 s m #[Value.ref b] below meth c H locs (cells + 1) (slots + 6) Q (F0 m 847 ls [])) : W p l e room_1 s m #[Value.ref b] below meth c H locs cells slots Q (F0 m 434 ls []) := by
  have hc0 : cells + 0 ≤ room_1.cells := by show cells + 0 ≤ 601024; omega
  have hs0 : slots + 0 ≤ room_1.slots := by show slots + 0 ≤ 7293000; omega
  refine lv_aload_n hx hb dL_law_434 rfl (lv_at hl 1 rfl) ?_
  refine lv_aload_n hx hb dL_law_435 rfl (lv_at hl 0 rfl) ?_
  refine lv_iload hx hb dL_law_436 (lv_at hl 4 rfl) ?_
  refine lv_iconst (v := 1) hx hb dL_law_438 (by decide) ?_
  refine lv_iadd hx hb dL_law_439 ?_
  refine lv_topi (fun x439 ex439 => ?_)
  obtain rfl : x439 = nI (i + 1) := by rw [ex439]; exact nI_add i 1
  refine va_sld hx hb hX hbl hbA hS (vp_in_nI (by omega) (by omega)) dL_law_440 ?_
  refine lv_topi (fun x440 ex440 => ?_)
  obtain rfl : x440 = xs (i + 1) := by rw [ex440, nI_clamp (by omega)]
  refine lv_i2l hx hb dL_law_441 rfl ?_
  refine lv_bipush (v := 32) hx hb dL_law_442 (by decide) ?_
  refine lv_lshl hx hb dL_law_444 rfl ?_
  refine lv_aload_n hx hb dL_law_445 rfl (lv_at hl 0 rfl) ?_
  refine lv_iload hx hb dL_law_446 (lv_at hl 4 rfl) ?_
  refine lv_iconst (v := 2) hx hb dL_law_448 (by decide) ?_
  refine lv_iadd hx hb dL_law_449 ?_
  refine lv_topi (fun x449 ex449 => ?_)
  obtain rfl : x449 = nI (i + 2) := by rw [ex449]; exact nI_add i 2
  refine va_sld hx hb hX hbl hbA hS (vp_in_nI (by omega) (by omega)) dL_law_450 ?_
  refine lv_topi (fun x450 ex450 => ?_)
  obtain rfl : x450 = xs (i + 2) := by rw [ex450, nI_clamp (by omega)]
  refine lv_i2l hx hb dL_law_451 rfl ?_
  refine lv_ldc2 (v := 4294967295) hx hb hown (hts (.constantLong RL 43 (4294967295)) (by decide +kernel)) dL_law_452 ?_
  refine lv_land hx hb dL_law_455 ?_
  refine lv_lor hx hb dL_law_456 ?_
  refine lv_topl (fun x456 ex456 => ?_)
  obtain rfl : x456 = lgv (xs (i + 1)) (xs (i + 2)) := by rw [ex456]; rfl
  refine gc_Vi (As := [.long (lgv (xs (i + 1)) (xs (i + 2)))]) (rest := []) (ci := 4) (q0 := 0) ⟨hx, hb, hml, hown, hts⟩ (c_X3_bound l D cI cJ cG H.size (mwW cI cJ cG [(o_, .inl (cJ, 1, .inr (.inl ov)))] m_ md_ mw_ mv_ mk_ mr_ mo_ mf_ mb_ mx_ mp_ K n dn wn vn tk kn M wo le kd px F fc ft rw lb) h_ c_ d_ w_ v_ t_ rk_ ro_ rc_ al_ b_ ka_ na_ jo_ me_ wo_ fd_ nr_ nc_ sc_ ar ac K n dn wn vn tk kn M C al kd me px pcs bt wo le F fc nr nc sc (lgv (xs (i + 1)) (xs (i + 2)))) (cwV 1 hts gL_law_X3_bound rfl rfl rfl (by decide +kernel) ⟨Nat.le_of_ble_eq_true rfl, Nat.le_of_ble_eq_true rfl⟩) rfl rfl rfl hK hP hD hS hA rfl hl.1 rfl (Nat.le_of_ble_eq_true rfl) dL_law_457 ⟨hc0, hs0⟩ (fun r1 u1 H locs h1 hP hD hS => ?_)
  obtain ⟨e1, rfl⟩ := h1
  have hP : va_P D vwCl (hwW cI cJ cG (mwW cI cJ cG [(o_, .inl (cJ, 1, .inr (.inl ov)))] m_ md_ mw_ mv_ mk_ mr_ mo_ mf_ mb_ mx_ mp_ K n dn wn vn tk kn M wo le kd px F fc ft rw lb) h_ c_ d_ w_ v_ t_ rk_ ro_ rc_ al_ b_ ka_ na_ jo_ me_ wo_ fd_ nr_ nc_ sc_ ar ac K n dn wn vn tk kn M C al kd me px pcs bt wo (if bdB (lgv (xs (i + 1)) (xs (i + 2))) = true then lgv (xs (i + 1)) (xs (i + 2)) else le) F fc nr nc sc) H := hP
  have hD : va_D A (hwW cI cJ cG (mwW cI cJ cG [(o_, .inl (cJ, 1, .inr (.inl ov)))] m_ md_ mw_ mv_ mk_ mr_ mo_ mf_ mb_ mx_ mp_ K n dn wn vn tk kn M wo le kd px F fc ft rw lb) h_ c_ d_ w_ v_ t_ rk_ ro_ rc_ al_ b_ ka_ na_ jo_ me_ wo_ fd_ nr_ nc_ sc_ ar ac K n dn wn vn tk kn M C al kd me px pcs bt wo (if bdB (lgv (xs (i + 1)) (xs (i + 2))) = true then lgv (xs (i + 1)) (xs (i + 2)) else le) F fc nr nc sc) := hD
  refine lv_aload_n hx hb dL_law_460 rfl (lv_at hl 2 rfl) ?_
  refine lv_aload_n hx hb dL_law_461 rfl (lv_at hl 0 rfl) ?_
  refine lv_iload hx hb dL_law_462 (lv_at hl 4 rfl) ?_
  refine lv_iconst (v := 1) hx hb dL_law_464 (by decide) ?_
  refine lv_iadd hx hb dL_law_465 ?_
  refine lv_topi (fun x465 ex465 => ?_)
  obtain rfl : x465 = nI (i + 1) := by rw [ex465]; exact nI_add i 1
  refine va_sld hx hb hX hbl hbA hS (vp_in_nI (by omega) (by omega)) dL_law_466 ?_
  refine lv_topi (fun x466 ex466 => ?_)
  obtain rfl : x466 = xs (i + 1) := by rw [ex466, nI_clamp (by omega)]
  refine lv_i2l hx hb dL_law_467 rfl ?_
  refine lv_bipush (v := 32) hx hb dL_law_468 (by decide) ?_
  refine lv_lshl hx hb dL_law_470 rfl ?_
  refine lv_aload_n hx hb dL_law_471 rfl (lv_at hl 0 rfl) ?_
  refine lv_iload hx hb dL_law_472 (lv_at hl 4 rfl) ?_
  refine lv_iconst (v := 2) hx hb dL_law_474 (by decide) ?_
  refine lv_iadd hx hb dL_law_475 ?_
  refine lv_topi (fun x475 ex475 => ?_)
  obtain rfl : x475 = nI (i + 2) := by rw [ex475]; exact nI_add i 2
  refine va_sld hx hb hX hbl hbA hS (vp_in_nI (by omega) (by omega)) dL_law_476 ?_
  refine lv_topi (fun x476 ex476 => ?_)
  obtain rfl : x476 = xs (i + 2) := by rw [ex476, nI_clamp (by omega)]
  refine lv_i2l hx hb dL_law_477 rfl ?_
  refine lv_ldc2 (v := 4294967295) hx hb hown (hts (.constantLong RL 43 (4294967295)) (by decide +kernel)) dL_law_478 ?_
  refine lv_land hx hb dL_law_481 ?_
  refine lv_lor hx hb dL_law_482 ?_
  refine lv_topl (fun x482 ex482 => ?_)
  obtain rfl : x482 = lgv (xs (i + 1)) (xs (i + 2)) := by rw [ex482]; rfl
  have hP := hm_P hP
  have hD := hm_D hD
  have hP : va_P D vwCl (mwW cI cJ cG (hwW cI cJ cG [(o_, .inl (cJ, 1, .inr (.inl ov)))] h_ c_ d_ w_ v_ t_ rk_ ro_ rc_ al_ b_ ka_ na_ jo_ me_ wo_ fd_ nr_ nc_ sc_ ar ac K n dn wn vn tk kn M C al kd me px pcs bt wo (if bdB (lgv (xs (i + 1)) (xs (i + 2))) = true then lgv (xs (i + 1)) (xs (i + 2)) else le) F fc nr nc sc) m_ md_ mw_ mv_ mk_ mr_ mo_ mf_ mb_ mx_ mp_ K n dn wn vn tk kn M wo le kd px F fc ft rw lb) H := hP
  have hD : va_D A (mwW cI cJ cG (hwW cI cJ cG [(o_, .inl (cJ, 1, .inr (.inl ov)))] h_ c_ d_ w_ v_ t_ rk_ ro_ rc_ al_ b_ ka_ na_ jo_ me_ wo_ fd_ nr_ nc_ sc_ ar ac K n dn wn vn tk kn M C al kd me px pcs bt wo (if bdB (lgv (xs (i + 1)) (xs (i + 2))) = true then lgv (xs (i + 1)) (xs (i + 2)) else le) F fc nr nc sc) m_ md_ mw_ mv_ mk_ mr_ mo_ mf_ mb_ mx_ mp_ K n dn wn vn tk kn M wo le kd px F fc ft rw lb) := hD
  refine gc_Vi (As := [.long (lgv (xs (i + 1)) (xs (i + 2)))]) (rest := [.int r1]) (ci := 5) (q0 := 0) ⟨hx, hb, hml, hown, hts⟩ (c_X4_bound l D cI cJ cG H.size (hwW cI cJ cG [(o_, .inl (cJ, 1, .inr (.inl ov)))] h_ c_ d_ w_ v_ t_ rk_ ro_ rc_ al_ b_ ka_ na_ jo_ me_ wo_ fd_ nr_ nc_ sc_ ar ac K n dn wn vn tk kn M C al kd me px pcs bt wo (if bdB (lgv (xs (i + 1)) (xs (i + 2))) = true then lgv (xs (i + 1)) (xs (i + 2)) else le) F fc nr nc sc) m_ md_ mw_ mv_ mk_ mr_ mo_ mf_ mb_ mx_ mp_ K n dn wn vn tk kn M wo le kd px F fc ft rw lb (lgv (xs (i + 1)) (xs (i + 2)))) (cwV 1 hts gL_law_X4_bound rfl rfl rfl (by decide +kernel) ⟨Nat.le_of_ble_eq_true rfl, Nat.le_of_ble_eq_true rfl⟩) rfl rfl rfl hK hP hD hS hA rfl hl.1 rfl (Nat.le_of_ble_eq_true rfl) dL_law_483 ⟨hc0, hs0⟩ (fun r2 u2 H locs h2 hP hD hS => ?_)
  obtain ⟨e2, rfl⟩ := h2
  have hP : va_P D vwCl (mwW cI cJ cG (hwW cI cJ cG [(o_, .inl (cJ, 1, .inr (.inl ov)))] h_ c_ d_ w_ v_ t_ rk_ ro_ rc_ al_ b_ ka_ na_ jo_ me_ wo_ fd_ nr_ nc_ sc_ ar ac K n dn wn vn tk kn M C al kd me px pcs bt wo (if bdB (lgv (xs (i + 1)) (xs (i + 2))) = true then lgv (xs (i + 1)) (xs (i + 2)) else le) F fc nr nc sc) m_ md_ mw_ mv_ mk_ mr_ mo_ mf_ mb_ mx_ mp_ K n dn wn vn tk kn M wo (if bdB (lgv (xs (i + 1)) (xs (i + 2))) = true then lgv (xs (i + 1)) (xs (i + 2)) else le) kd px F fc 0 rw lb) H := hP
  have hD : va_D A (mwW cI cJ cG (hwW cI cJ cG [(o_, .inl (cJ, 1, .inr (.inl ov)))] h_ c_ d_ w_ v_ t_ rk_ ro_ rc_ al_ b_ ka_ na_ jo_ me_ wo_ fd_ nr_ nc_ sc_ ar ac K n dn wn vn tk kn M C al kd me px pcs bt wo (if bdB (lgv (xs (i + 1)) (xs (i + 2))) = true then lgv (xs (i + 1)) (xs (i + 2)) else le) F fc nr nc sc) m_ md_ mw_ mv_ mk_ mr_ mo_ mf_ mb_ mx_ mp_ K n dn wn vn tk kn M wo (if bdB (lgv (xs (i + 1)) (xs (i + 2))) = true then lgv (xs (i + 1)) (xs (i + 2)) else le) kd px F fc 0 rw lb) := hD
  have hreq : r1 = r2 := by rw [e1, e2]
  refine lv_icmp_eq (tgt := 847) hx hb dL_law_486 (by decide) (fun c9 => ?_) (fun c9 => absurd hreq c9)
  refine W.widen (k := cells + 1) (n := slots + 6) (by show _ ≤ cells + 1; omega) (by show _ ≤ slots + 6; omega) ?_
  exact kb n dn wn vn tk kn M C al kd me px pcs bt wo (if bdB (lgv (xs (i + 1)) (xs (i + 2))) = true then lgv (xs (i + 1)) (xs (i + 2)) else le) F fc nr nc sc 0 rw lb ov hLI H locs ls hP hD hS (lv_sub hl [0, 1, 2, 3, 4] rfl)
set_option maxHeartbeats 4000000 in
set_option maxRecDepth 100000 in
theorem lc_worth (hx : p.tables.exec = Jvm.exec) (hb : c.code = cL_law) (hml : c.maxLocals = 7) (hown : s.vm.findClass RL = some m.cls) (hts : ∀ w ∈ wsL_law, w.before #[Value.ref b] s = true) (hX : va_X b L xs s s.heap) (hbl : b < s.heap.size) (hbA : ¬ A b) (hA : ∀ q, s.heap.size ≤ q → A q) (hK : va_K D vwCl (tyl cI cJ cG) s) (hi : i + 4 < L) (hL : L ≤ 2561) (hLI : LI K n dn wn vn kn M C kd px pcs bt F fc nr nc rw lb) (hcs : cells + 1 ≤ 601024 ∧ slots + 6 ≤ 7293000) (hP : va_P D vwCl (hwW cI cJ cG (mwW cI cJ cG [(o_, .inl (cJ, 1, .inr (.inl ov)))] m_ md_ mw_ mv_ mk_ mr_ mo_ mf_ mb_ mx_ mp_ K n dn wn vn tk kn M wo le kd px F fc ft rw lb) h_ c_ d_ w_ v_ t_ rk_ ro_ rc_ al_ b_ ka_ na_ jo_ me_ wo_ fd_ nr_ nc_ sc_ ar ac K n dn wn vn tk kn M C al kd me px pcs bt wo le F fc nr nc sc) H) (hD : va_D A (hwW cI cJ cG (mwW cI cJ cG [(o_, .inl (cJ, 1, .inr (.inl ov)))] m_ md_ mw_ mv_ mk_ mr_ mo_ mf_ mb_ mx_ mp_ K n dn wn vn tk kn M wo le kd px F fc ft rw lb) h_ c_ d_ w_ v_ t_ rk_ ro_ rc_ al_ b_ ka_ na_ jo_ me_ wo_ fd_ nr_ nc_ sc_ ar ac K n dn wn vn tk kn M C al kd me px pcs bt wo le F fc nr nc sc)) (hS : va_S A s.heap H locs) (hl : lv_has ls 7 [(0, .ref b), (1, .ref h_), (2, .ref m_), (3, .ref o_), (4, .int (nI i))]) (kb : ∀ (n : Nat) (dn : Nat → Nat) (wn : Nat → Nat) (vn : Nat → Nat) (tk : Int64) (kn : Nat → Nat) (M : Nat → Nat → Nat) (C : Nat → Nat → Nat) (al : Nat → Nat) (kd : Nat → Nat) (me : Nat → Nat) (px : Nat) (pcs : Nat) (bt : Bst) (wo : Nat → Int64) (le : Int64) (F : Nat → Nat) (fc : Nat) (nr : Nat → Nat) (nc : Nat → Nat) (sc : Nat → Nat) (ft : Nat) (rw : Nat → Nat) (lb : Nat → Nat) (ov : Nat → Int64), LI K n dn wn vn kn M C kd px pcs bt F fc nr nc rw lb → ∀ (H : Heap) (locs : List Loc) (ls : Array Slot), va_P D vwCl (mwW cI cJ cG (hwW cI cJ cG [(o_, .inl (cJ, 1, .inr (.inl ov)))] h_ c_ d_ w_ v_ t_ rk_ ro_ rc_ al_ b_ ka_ na_ jo_ me_ wo_ fd_ nr_ nc_ sc_ ar ac K n dn wn vn tk kn M C al kd me px pcs bt wo le F fc nr nc sc) m_ md_ mw_ mv_ mk_ mr_ mo_ mf_ mb_ mx_ mp_ K n dn wn vn tk kn M wo le kd px F fc ft rw lb) H → va_D A (mwW cI cJ cG (hwW cI cJ cG [(o_, .inl (cJ, 1, .inr (.inl ov)))] h_ c_ d_ w_ v_ t_ rk_ ro_ rc_ al_ b_ ka_ na_ jo_ me_ wo_ fd_ nr_ nc_ sc_ ar ac K n dn wn vn tk kn M C al kd me px pcs bt wo le F fc nr nc sc) m_ md_ mw_ mv_ mk_ mr_ mo_ mf_ mb_ mx_ mp_ K n dn wn vn tk kn M wo le kd px F fc ft rw lb) → va_S A s.heap H locs → lv_has ls 7 [(0, .ref b), (1, .ref h_), (2, .ref m_), (3, .ref o_), (4, .int (nI i))] → W p l e room_1 s m #[Value.ref b] below meth c H locs (cells + 1) (slots + 6) Q (F0 m 847 ls [])) : W p l e room_1 s m #[Value.ref b] below meth c H locs cells slots Q (F0 m 491 ls []) := by
  have hc0 : cells + 0 ≤ room_1.cells := by show cells + 0 ≤ 601024; omega
  have hs0 : slots + 0 ≤ room_1.slots := by show slots + 0 ≤ 7293000; omega
  refine lv_aload_n hx hb dL_law_491 rfl (lv_at hl 1 rfl) ?_
  refine lv_aload_n hx hb dL_law_492 rfl (lv_at hl 0 rfl) ?_
  refine lv_iload hx hb dL_law_493 (lv_at hl 4 rfl) ?_
  refine lv_iconst (v := 1) hx hb dL_law_495 (by decide) ?_
  refine lv_iadd hx hb dL_law_496 ?_
  refine lv_topi (fun x496 ex496 => ?_)
  obtain rfl : x496 = nI (i + 1) := by rw [ex496]; exact nI_add i 1
  refine va_sld hx hb hX hbl hbA hS (vp_in_nI (by omega) (by omega)) dL_law_497 ?_
  refine lv_topi (fun x497 ex497 => ?_)
  obtain rfl : x497 = xs (i + 1) := by rw [ex497, nI_clamp (by omega)]
  refine lv_aload_n hx hb dL_law_498 rfl (lv_at hl 0 rfl) ?_
  refine lv_iload hx hb dL_law_499 (lv_at hl 4 rfl) ?_
  refine lv_iconst (v := 2) hx hb dL_law_501 (by decide) ?_
  refine lv_iadd hx hb dL_law_502 ?_
  refine lv_topi (fun x502 ex502 => ?_)
  obtain rfl : x502 = nI (i + 2) := by rw [ex502]; exact nI_add i 2
  refine va_sld hx hb hX hbl hbA hS (vp_in_nI (by omega) (by omega)) dL_law_503 ?_
  refine lv_topi (fun x503 ex503 => ?_)
  obtain rfl : x503 = xs (i + 2) := by rw [ex503, nI_clamp (by omega)]
  refine lv_i2l hx hb dL_law_504 rfl ?_
  refine lv_bipush (v := 32) hx hb dL_law_505 (by decide) ?_
  refine lv_lshl hx hb dL_law_507 rfl ?_
  refine lv_aload_n hx hb dL_law_508 rfl (lv_at hl 0 rfl) ?_
  refine lv_iload hx hb dL_law_509 (lv_at hl 4 rfl) ?_
  refine lv_iconst (v := 3) hx hb dL_law_511 (by decide) ?_
  refine lv_iadd hx hb dL_law_512 ?_
  refine lv_topi (fun x512 ex512 => ?_)
  obtain rfl : x512 = nI (i + 3) := by rw [ex512]; exact nI_add i 3
  refine va_sld hx hb hX hbl hbA hS (vp_in_nI (by omega) (by omega)) dL_law_513 ?_
  refine lv_topi (fun x513 ex513 => ?_)
  obtain rfl : x513 = xs (i + 3) := by rw [ex513, nI_clamp (by omega)]
  refine lv_i2l hx hb dL_law_514 rfl ?_
  refine lv_ldc2 (v := 4294967295) hx hb hown (hts (.constantLong RL 43 (4294967295)) (by decide +kernel)) dL_law_515 ?_
  refine lv_land hx hb dL_law_518 ?_
  refine lv_lor hx hb dL_law_519 ?_
  refine lv_topl (fun x519 ex519 => ?_)
  obtain rfl : x519 = lgv (xs (i + 2)) (xs (i + 3)) := by rw [ex519]; rfl
  refine gc_Vi (As := [.int (xs (i + 1)), .long (lgv (xs (i + 2)) (xs (i + 3)))]) (rest := []) (ci := 4) (q0 := 0) ⟨hx, hb, hml, hown, hts⟩ (c_X3_worth l D cI cJ cG H.size (mwW cI cJ cG [(o_, .inl (cJ, 1, .inr (.inl ov)))] m_ md_ mw_ mv_ mk_ mr_ mo_ mf_ mb_ mx_ mp_ K n dn wn vn tk kn M wo le kd px F fc ft rw lb) h_ c_ d_ w_ v_ t_ rk_ ro_ rc_ al_ b_ ka_ na_ jo_ me_ wo_ fd_ nr_ nc_ sc_ ar ac K n dn wn vn tk kn M C al kd me px pcs bt wo le F fc nr nc sc (xs (i + 1)) (lgv (xs (i + 2)) (xs (i + 3))) hLI.h) (cwV 2 hts gL_law_X3_worth rfl rfl rfl (by decide +kernel) ⟨Nat.le_of_ble_eq_true rfl, Nat.le_of_ble_eq_true rfl⟩) rfl rfl rfl hK hP hD hS hA rfl hl.1 rfl (Nat.le_of_ble_eq_true rfl) dL_law_520 ⟨hc0, hs0⟩ (fun r1 u1 H locs h1 hP hD hS => ?_)
  obtain ⟨e1, rfl⟩ := h1
  have hP : va_P D vwCl (hwW cI cJ cG (mwW cI cJ cG [(o_, .inl (cJ, 1, .inr (.inl ov)))] m_ md_ mw_ mv_ mk_ mr_ mo_ mf_ mb_ mx_ mp_ K n dn wn vn tk kn M wo le kd px F fc ft rw lb) h_ c_ d_ w_ v_ t_ rk_ ro_ rc_ al_ b_ ka_ na_ jo_ me_ wo_ fd_ nr_ nc_ sc_ ar ac K n dn wn vn tk kn M C al kd me px pcs bt (if (inB (xs (i + 1)) K && wtB (lgv (xs (i + 2)) (xs (i + 3)))) = true then vp_updL wo (xs (i + 1)).toNatClampNeg (lgv (xs (i + 2)) (xs (i + 3))) else wo) le F fc nr nc sc) H := hP
  have hD : va_D A (hwW cI cJ cG (mwW cI cJ cG [(o_, .inl (cJ, 1, .inr (.inl ov)))] m_ md_ mw_ mv_ mk_ mr_ mo_ mf_ mb_ mx_ mp_ K n dn wn vn tk kn M wo le kd px F fc ft rw lb) h_ c_ d_ w_ v_ t_ rk_ ro_ rc_ al_ b_ ka_ na_ jo_ me_ wo_ fd_ nr_ nc_ sc_ ar ac K n dn wn vn tk kn M C al kd me px pcs bt (if (inB (xs (i + 1)) K && wtB (lgv (xs (i + 2)) (xs (i + 3)))) = true then vp_updL wo (xs (i + 1)).toNatClampNeg (lgv (xs (i + 2)) (xs (i + 3))) else wo) le F fc nr nc sc) := hD
  refine lv_aload_n hx hb dL_law_523 rfl (lv_at hl 2 rfl) ?_
  refine lv_aload_n hx hb dL_law_524 rfl (lv_at hl 0 rfl) ?_
  refine lv_iload hx hb dL_law_525 (lv_at hl 4 rfl) ?_
  refine lv_iconst (v := 1) hx hb dL_law_527 (by decide) ?_
  refine lv_iadd hx hb dL_law_528 ?_
  refine lv_topi (fun x528 ex528 => ?_)
  obtain rfl : x528 = nI (i + 1) := by rw [ex528]; exact nI_add i 1
  refine va_sld hx hb hX hbl hbA hS (vp_in_nI (by omega) (by omega)) dL_law_529 ?_
  refine lv_topi (fun x529 ex529 => ?_)
  obtain rfl : x529 = xs (i + 1) := by rw [ex529, nI_clamp (by omega)]
  refine lv_aload_n hx hb dL_law_530 rfl (lv_at hl 0 rfl) ?_
  refine lv_iload hx hb dL_law_531 (lv_at hl 4 rfl) ?_
  refine lv_iconst (v := 2) hx hb dL_law_533 (by decide) ?_
  refine lv_iadd hx hb dL_law_534 ?_
  refine lv_topi (fun x534 ex534 => ?_)
  obtain rfl : x534 = nI (i + 2) := by rw [ex534]; exact nI_add i 2
  refine va_sld hx hb hX hbl hbA hS (vp_in_nI (by omega) (by omega)) dL_law_535 ?_
  refine lv_topi (fun x535 ex535 => ?_)
  obtain rfl : x535 = xs (i + 2) := by rw [ex535, nI_clamp (by omega)]
  refine lv_i2l hx hb dL_law_536 rfl ?_
  refine lv_bipush (v := 32) hx hb dL_law_537 (by decide) ?_
  refine lv_lshl hx hb dL_law_539 rfl ?_
  refine lv_aload_n hx hb dL_law_540 rfl (lv_at hl 0 rfl) ?_
  refine lv_iload hx hb dL_law_541 (lv_at hl 4 rfl) ?_
  refine lv_iconst (v := 3) hx hb dL_law_543 (by decide) ?_
  refine lv_iadd hx hb dL_law_544 ?_
  refine lv_topi (fun x544 ex544 => ?_)
  obtain rfl : x544 = nI (i + 3) := by rw [ex544]; exact nI_add i 3
  refine va_sld hx hb hX hbl hbA hS (vp_in_nI (by omega) (by omega)) dL_law_545 ?_
  refine lv_topi (fun x545 ex545 => ?_)
  obtain rfl : x545 = xs (i + 3) := by rw [ex545, nI_clamp (by omega)]
  refine lv_i2l hx hb dL_law_546 rfl ?_
  refine lv_ldc2 (v := 4294967295) hx hb hown (hts (.constantLong RL 43 (4294967295)) (by decide +kernel)) dL_law_547 ?_
  refine lv_land hx hb dL_law_550 ?_
  refine lv_lor hx hb dL_law_551 ?_
  refine lv_topl (fun x551 ex551 => ?_)
  obtain rfl : x551 = lgv (xs (i + 2)) (xs (i + 3)) := by rw [ex551]; rfl
  have hP := hm_P hP
  have hD := hm_D hD
  have hP : va_P D vwCl (mwW cI cJ cG (hwW cI cJ cG [(o_, .inl (cJ, 1, .inr (.inl ov)))] h_ c_ d_ w_ v_ t_ rk_ ro_ rc_ al_ b_ ka_ na_ jo_ me_ wo_ fd_ nr_ nc_ sc_ ar ac K n dn wn vn tk kn M C al kd me px pcs bt (if (inB (xs (i + 1)) K && wtB (lgv (xs (i + 2)) (xs (i + 3)))) = true then vp_updL wo (xs (i + 1)).toNatClampNeg (lgv (xs (i + 2)) (xs (i + 3))) else wo) le F fc nr nc sc) m_ md_ mw_ mv_ mk_ mr_ mo_ mf_ mb_ mx_ mp_ K n dn wn vn tk kn M wo le kd px F fc ft rw lb) H := hP
  have hD : va_D A (mwW cI cJ cG (hwW cI cJ cG [(o_, .inl (cJ, 1, .inr (.inl ov)))] h_ c_ d_ w_ v_ t_ rk_ ro_ rc_ al_ b_ ka_ na_ jo_ me_ wo_ fd_ nr_ nc_ sc_ ar ac K n dn wn vn tk kn M C al kd me px pcs bt (if (inB (xs (i + 1)) K && wtB (lgv (xs (i + 2)) (xs (i + 3)))) = true then vp_updL wo (xs (i + 1)).toNatClampNeg (lgv (xs (i + 2)) (xs (i + 3))) else wo) le F fc nr nc sc) m_ md_ mw_ mv_ mk_ mr_ mo_ mf_ mb_ mx_ mp_ K n dn wn vn tk kn M wo le kd px F fc ft rw lb) := hD
  refine gc_Vi (As := [.int (xs (i + 1)), .long (lgv (xs (i + 2)) (xs (i + 3)))]) (rest := [.int r1]) (ci := 5) (q0 := 0) ⟨hx, hb, hml, hown, hts⟩ (c_X4_worth l D cI cJ cG H.size (hwW cI cJ cG [(o_, .inl (cJ, 1, .inr (.inl ov)))] h_ c_ d_ w_ v_ t_ rk_ ro_ rc_ al_ b_ ka_ na_ jo_ me_ wo_ fd_ nr_ nc_ sc_ ar ac K n dn wn vn tk kn M C al kd me px pcs bt (if (inB (xs (i + 1)) K && wtB (lgv (xs (i + 2)) (xs (i + 3)))) = true then vp_updL wo (xs (i + 1)).toNatClampNeg (lgv (xs (i + 2)) (xs (i + 3))) else wo) le F fc nr nc sc) m_ md_ mw_ mv_ mk_ mr_ mo_ mf_ mb_ mx_ mp_ K n dn wn vn tk kn M wo le kd px F fc ft rw lb (xs (i + 1)) (lgv (xs (i + 2)) (xs (i + 3))) hLI.m) (cwV 2 hts gL_law_X4_worth rfl rfl rfl (by decide +kernel) ⟨Nat.le_of_ble_eq_true rfl, Nat.le_of_ble_eq_true rfl⟩) rfl rfl rfl hK hP hD hS hA rfl hl.1 rfl (Nat.le_of_ble_eq_true rfl) dL_law_552 ⟨hc0, hs0⟩ (fun r2 u2 H locs h2 hP hD hS => ?_)
  obtain ⟨e2, rfl⟩ := h2
  have hP : va_P D vwCl (mwW cI cJ cG (hwW cI cJ cG [(o_, .inl (cJ, 1, .inr (.inl ov)))] h_ c_ d_ w_ v_ t_ rk_ ro_ rc_ al_ b_ ka_ na_ jo_ me_ wo_ fd_ nr_ nc_ sc_ ar ac K n dn wn vn tk kn M C al kd me px pcs bt (if (inB (xs (i + 1)) K && wtB (lgv (xs (i + 2)) (xs (i + 3)))) = true then vp_updL wo (xs (i + 1)).toNatClampNeg (lgv (xs (i + 2)) (xs (i + 3))) else wo) le F fc nr nc sc) m_ md_ mw_ mv_ mk_ mr_ mo_ mf_ mb_ mx_ mp_ K n dn wn vn tk kn M (if (inB (xs (i + 1)) K && wtB (lgv (xs (i + 2)) (xs (i + 3)))) = true then vp_updL wo (xs (i + 1)).toNatClampNeg (lgv (xs (i + 2)) (xs (i + 3))) else wo) le kd px F fc 0 rw lb) H := hP
  have hD : va_D A (mwW cI cJ cG (hwW cI cJ cG [(o_, .inl (cJ, 1, .inr (.inl ov)))] h_ c_ d_ w_ v_ t_ rk_ ro_ rc_ al_ b_ ka_ na_ jo_ me_ wo_ fd_ nr_ nc_ sc_ ar ac K n dn wn vn tk kn M C al kd me px pcs bt (if (inB (xs (i + 1)) K && wtB (lgv (xs (i + 2)) (xs (i + 3)))) = true then vp_updL wo (xs (i + 1)).toNatClampNeg (lgv (xs (i + 2)) (xs (i + 3))) else wo) le F fc nr nc sc) m_ md_ mw_ mv_ mk_ mr_ mo_ mf_ mb_ mx_ mp_ K n dn wn vn tk kn M (if (inB (xs (i + 1)) K && wtB (lgv (xs (i + 2)) (xs (i + 3)))) = true then vp_updL wo (xs (i + 1)).toNatClampNeg (lgv (xs (i + 2)) (xs (i + 3))) else wo) le kd px F fc 0 rw lb) := hD
  have hreq : r1 = r2 := by rw [e1, e2]
  refine lv_icmp_eq (tgt := 847) hx hb dL_law_555 (by decide) (fun c9 => ?_) (fun c9 => absurd hreq c9)
  refine W.widen (k := cells + 1) (n := slots + 6) (by show _ ≤ cells + 1; omega) (by show _ ≤ slots + 6; omega) ?_
  exact kb n dn wn vn tk kn M C al kd me px pcs bt (if (inB (xs (i + 1)) K && wtB (lgv (xs (i + 2)) (xs (i + 3)))) = true then vp_updL wo (xs (i + 1)).toNatClampNeg (lgv (xs (i + 2)) (xs (i + 3))) else wo) le F fc nr nc sc 0 rw lb ov hLI H locs ls hP hD hS (lv_sub hl [0, 1, 2, 3, 4] rfl)
set_option maxHeartbeats 4000000 in
set_option maxRecDepth 100000 in
theorem lc_leftOut (hx : p.tables.exec = Jvm.exec) (hb : c.code = cL_law) (hml : c.maxLocals = 7) (hown : s.vm.findClass RL = some m.cls) (hts : ∀ w ∈ wsL_law, w.before #[Value.ref b] s = true) (hX : va_X b L xs s s.heap) (hbl : b < s.heap.size) (hbA : ¬ A b) (hA : ∀ q, s.heap.size ≤ q → A q) (hK : va_K D vwCl (tyl cI cJ cG) s) (hi : i + 4 < L) (hL : L ≤ 2561) (hLI : LI K n dn wn vn kn M C kd px pcs bt F fc nr nc rw lb) (hcs : cells + 1 ≤ 601024 ∧ slots + 6 ≤ 7293000) (hP : va_P D vwCl (hwW cI cJ cG (mwW cI cJ cG [(o_, .inl (cJ, 1, .inr (.inl ov)))] m_ md_ mw_ mv_ mk_ mr_ mo_ mf_ mb_ mx_ mp_ K n dn wn vn tk kn M wo le kd px F fc ft rw lb) h_ c_ d_ w_ v_ t_ rk_ ro_ rc_ al_ b_ ka_ na_ jo_ me_ wo_ fd_ nr_ nc_ sc_ ar ac K n dn wn vn tk kn M C al kd me px pcs bt wo le F fc nr nc sc) H) (hD : va_D A (hwW cI cJ cG (mwW cI cJ cG [(o_, .inl (cJ, 1, .inr (.inl ov)))] m_ md_ mw_ mv_ mk_ mr_ mo_ mf_ mb_ mx_ mp_ K n dn wn vn tk kn M wo le kd px F fc ft rw lb) h_ c_ d_ w_ v_ t_ rk_ ro_ rc_ al_ b_ ka_ na_ jo_ me_ wo_ fd_ nr_ nc_ sc_ ar ac K n dn wn vn tk kn M C al kd me px pcs bt wo le F fc nr nc sc)) (hS : va_S A s.heap H locs) (hl : lv_has ls 7 [(0, .ref b), (1, .ref h_), (2, .ref m_), (3, .ref o_), (4, .int (nI i))]) (kb : ∀ (n : Nat) (dn : Nat → Nat) (wn : Nat → Nat) (vn : Nat → Nat) (tk : Int64) (kn : Nat → Nat) (M : Nat → Nat → Nat) (C : Nat → Nat → Nat) (al : Nat → Nat) (kd : Nat → Nat) (me : Nat → Nat) (px : Nat) (pcs : Nat) (bt : Bst) (wo : Nat → Int64) (le : Int64) (F : Nat → Nat) (fc : Nat) (nr : Nat → Nat) (nc : Nat → Nat) (sc : Nat → Nat) (ft : Nat) (rw : Nat → Nat) (lb : Nat → Nat) (ov : Nat → Int64), LI K n dn wn vn kn M C kd px pcs bt F fc nr nc rw lb → ∀ (H : Heap) (locs : List Loc) (ls : Array Slot), va_P D vwCl (mwW cI cJ cG (hwW cI cJ cG [(o_, .inl (cJ, 1, .inr (.inl ov)))] h_ c_ d_ w_ v_ t_ rk_ ro_ rc_ al_ b_ ka_ na_ jo_ me_ wo_ fd_ nr_ nc_ sc_ ar ac K n dn wn vn tk kn M C al kd me px pcs bt wo le F fc nr nc sc) m_ md_ mw_ mv_ mk_ mr_ mo_ mf_ mb_ mx_ mp_ K n dn wn vn tk kn M wo le kd px F fc ft rw lb) H → va_D A (mwW cI cJ cG (hwW cI cJ cG [(o_, .inl (cJ, 1, .inr (.inl ov)))] h_ c_ d_ w_ v_ t_ rk_ ro_ rc_ al_ b_ ka_ na_ jo_ me_ wo_ fd_ nr_ nc_ sc_ ar ac K n dn wn vn tk kn M C al kd me px pcs bt wo le F fc nr nc sc) m_ md_ mw_ mv_ mk_ mr_ mo_ mf_ mb_ mx_ mp_ K n dn wn vn tk kn M wo le kd px F fc ft rw lb) → va_S A s.heap H locs → lv_has ls 7 [(0, .ref b), (1, .ref h_), (2, .ref m_), (3, .ref o_), (4, .int (nI i))] → W p l e room_1 s m #[Value.ref b] below meth c H locs (cells + 1) (slots + 6) Q (F0 m 847 ls [])) : W p l e room_1 s m #[Value.ref b] below meth c H locs cells slots Q (F0 m 560 ls []) := by
  have hc0 : cells + 0 ≤ room_1.cells := by show cells + 0 ≤ 601024; omega
  have hs0 : slots + 0 ≤ room_1.slots := by show slots + 0 ≤ 7293000; omega
  refine lv_aload_n hx hb dL_law_560 rfl (lv_at hl 1 rfl) ?_
  refine lv_aload_n hx hb dL_law_561 rfl (lv_at hl 0 rfl) ?_
  refine lv_iload hx hb dL_law_562 (lv_at hl 4 rfl) ?_
  refine lv_iconst (v := 1) hx hb dL_law_564 (by decide) ?_
  refine lv_iadd hx hb dL_law_565 ?_
  refine lv_topi (fun x565 ex565 => ?_)
  obtain rfl : x565 = nI (i + 1) := by rw [ex565]; exact nI_add i 1
  refine va_sld hx hb hX hbl hbA hS (vp_in_nI (by omega) (by omega)) dL_law_566 ?_
  refine lv_topi (fun x566 ex566 => ?_)
  obtain rfl : x566 = xs (i + 1) := by rw [ex566, nI_clamp (by omega)]
  refine gc_Vi (As := [.int (xs (i + 1))]) (rest := []) (ci := 4) (q0 := 0) ⟨hx, hb, hml, hown, hts⟩ (c_X3_leftOut l D cI cJ cG H.size (mwW cI cJ cG [(o_, .inl (cJ, 1, .inr (.inl ov)))] m_ md_ mw_ mv_ mk_ mr_ mo_ mf_ mb_ mx_ mp_ K n dn wn vn tk kn M wo le kd px F fc ft rw lb) h_ c_ d_ w_ v_ t_ rk_ ro_ rc_ al_ b_ ka_ na_ jo_ me_ wo_ fd_ nr_ nc_ sc_ ar ac K n dn wn vn tk kn M C al kd me px pcs bt wo le F fc nr nc sc (xs (i + 1)) hLI.h) (cwV 1 hts gL_law_X3_leftOut rfl rfl rfl (by decide +kernel) ⟨Nat.le_of_ble_eq_true rfl, Nat.le_of_ble_eq_true rfl⟩) rfl rfl rfl hK hP hD hS hA rfl hl.1 rfl (Nat.le_of_ble_eq_true rfl) dL_law_567 ⟨hc0, hs0⟩ (fun r1 u1 H locs h1 hP hD hS => ?_)
  obtain ⟨al1, sc1⟩ := u1
  have hP : va_P D vwCl (hwW cI cJ cG (mwW cI cJ cG [(o_, .inl (cJ, 1, .inr (.inl ov)))] m_ md_ mw_ mv_ mk_ mr_ mo_ mf_ mb_ mx_ mp_ K n dn wn vn tk kn M wo le kd px F fc ft rw lb) h_ c_ d_ w_ v_ t_ rk_ ro_ rc_ al_ b_ ka_ na_ jo_ me_ wo_ fd_ nr_ nc_ sc_ ar ac K n dn wn vn tk kn M C al1 kd me px pcs bt wo le F fc nr nc sc1) H := hP
  have hD : va_D A (hwW cI cJ cG (mwW cI cJ cG [(o_, .inl (cJ, 1, .inr (.inl ov)))] m_ md_ mw_ mv_ mk_ mr_ mo_ mf_ mb_ mx_ mp_ K n dn wn vn tk kn M wo le kd px F fc ft rw lb) h_ c_ d_ w_ v_ t_ rk_ ro_ rc_ al_ b_ ka_ na_ jo_ me_ wo_ fd_ nr_ nc_ sc_ ar ac K n dn wn vn tk kn M C al1 kd me px pcs bt wo le F fc nr nc sc1) := hD
  refine lv_aload_n hx hb dL_law_570 rfl (lv_at hl 2 rfl) ?_
  refine lv_aload_n hx hb dL_law_571 rfl (lv_at hl 0 rfl) ?_
  refine lv_iload hx hb dL_law_572 (lv_at hl 4 rfl) ?_
  refine lv_iconst (v := 1) hx hb dL_law_574 (by decide) ?_
  refine lv_iadd hx hb dL_law_575 ?_
  refine lv_topi (fun x575 ex575 => ?_)
  obtain rfl : x575 = nI (i + 1) := by rw [ex575]; exact nI_add i 1
  refine va_sld hx hb hX hbl hbA hS (vp_in_nI (by omega) (by omega)) dL_law_576 ?_
  refine lv_topi (fun x576 ex576 => ?_)
  obtain rfl : x576 = xs (i + 1) := by rw [ex576, nI_clamp (by omega)]
  have hP := hm_P hP
  have hD := hm_D hD
  have hP : va_P D vwCl (mwW cI cJ cG (hwW cI cJ cG [(o_, .inl (cJ, 1, .inr (.inl ov)))] h_ c_ d_ w_ v_ t_ rk_ ro_ rc_ al_ b_ ka_ na_ jo_ me_ wo_ fd_ nr_ nc_ sc_ ar ac K n dn wn vn tk kn M C al1 kd me px pcs bt wo le F fc nr nc sc1) m_ md_ mw_ mv_ mk_ mr_ mo_ mf_ mb_ mx_ mp_ K n dn wn vn tk kn M wo le kd px F fc ft rw lb) H := hP
  have hD : va_D A (mwW cI cJ cG (hwW cI cJ cG [(o_, .inl (cJ, 1, .inr (.inl ov)))] h_ c_ d_ w_ v_ t_ rk_ ro_ rc_ al_ b_ ka_ na_ jo_ me_ wo_ fd_ nr_ nc_ sc_ ar ac K n dn wn vn tk kn M C al1 kd me px pcs bt wo le F fc nr nc sc1) m_ md_ mw_ mv_ mk_ mr_ mo_ mf_ mb_ mx_ mp_ K n dn wn vn tk kn M wo le kd px F fc ft rw lb) := hD
  refine gc_Vi (As := [.int (xs (i + 1))]) (rest := [.int r1]) (ci := 5) (q0 := 0) ⟨hx, hb, hml, hown, hts⟩ (c_X4_leftOut l D cI cJ cG H.size (hwW cI cJ cG [(o_, .inl (cJ, 1, .inr (.inl ov)))] h_ c_ d_ w_ v_ t_ rk_ ro_ rc_ al_ b_ ka_ na_ jo_ me_ wo_ fd_ nr_ nc_ sc_ ar ac K n dn wn vn tk kn M C al1 kd me px pcs bt wo le F fc nr nc sc1) m_ md_ mw_ mv_ mk_ mr_ mo_ mf_ mb_ mx_ mp_ K n dn wn vn tk kn M wo le kd px F fc ft rw lb (xs (i + 1)) hLI.m) (cwV 1 hts gL_law_X4_leftOut rfl rfl rfl (by decide +kernel) ⟨Nat.le_of_ble_eq_true rfl, Nat.le_of_ble_eq_true rfl⟩) rfl rfl rfl hK hP hD hS hA rfl hl.1 rfl (Nat.le_of_ble_eq_true rfl) dL_law_577 ⟨hc0, hs0⟩ (fun r2 u2 H locs h2 hP hD hS => ?_)
  obtain ⟨g2, b2⟩ := h2
  have hP : va_P D vwCl (mwW cI cJ cG (hwW cI cJ cG [(o_, .inl (cJ, 1, .inr (.inl ov)))] h_ c_ d_ w_ v_ t_ rk_ ro_ rc_ al_ b_ ka_ na_ jo_ me_ wo_ fd_ nr_ nc_ sc_ ar ac K n dn wn vn tk kn M C al1 kd me px pcs bt wo le F fc nr nc sc1) m_ md_ mw_ mv_ mk_ mr_ mo_ mf_ mb_ mx_ mp_ K n dn wn vn tk kn M wo le kd px F fc 0 u2 lb) H := hP
  have hD : va_D A (mwW cI cJ cG (hwW cI cJ cG [(o_, .inl (cJ, 1, .inr (.inl ov)))] h_ c_ d_ w_ v_ t_ rk_ ro_ rc_ al_ b_ ka_ na_ jo_ me_ wo_ fd_ nr_ nc_ sc_ ar ac K n dn wn vn tk kn M C al1 kd me px pcs bt wo le F fc nr nc sc1) m_ md_ mw_ mv_ mk_ mr_ mo_ mf_ mb_ mx_ mp_ K n dn wn vn tk kn M wo le kd px F fc 0 u2 lb) := hD
  have hn40 := hLI.h.2.1
  have hreq : r1 = r2 := by rw [h1, g2]; by_cases hc : inB (xs (i + 1)) n = true; rw [if_pos hc, if_pos hc]; exact hLI.lo (inB_lt hc (by omega)); rw [if_neg hc, if_neg hc]
  refine lv_icmp_eq (tgt := 847) hx hb dL_law_580 (by decide) (fun c9 => ?_) (fun c9 => absurd hreq c9)
  refine W.widen (k := cells + 1) (n := slots + 6) (by show _ ≤ cells + 1; omega) (by show _ ≤ slots + 6; omega) ?_
  exact kb n dn wn vn tk kn M C al1 kd me px pcs bt wo le F fc nr nc sc1 0 u2 lb ov (hLI.rows hLI.h.2.2.2.2.2.2.1 hLI.h.2.2.2.2.2.2.2 b2 hLI.2.1.2) H locs ls hP hD hS (lv_sub hl [0, 1, 2, 3, 4] rfl)
end LAWC
