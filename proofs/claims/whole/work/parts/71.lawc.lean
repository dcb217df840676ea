section LAWC
variable {p : Program} {l : Launch} {e : Env} {s : State} {m : MethodId} {below : List Frame} {meth : Method} {c : Code} {H : Heap} {locs : List Loc} {cells slots : Nat} {Q : State → Prop} {ls : Array Slot} {D : va_G} {A : Nat → Prop} {cI cJ cG : ClassId} {b L i : Nat} {xs : Nat → Int32} {h_ c_ d_ w_ v_ t_ rk_ ro_ rc_ al_ b_ ka_ na_ jo_ me_ wo_ fd_ nr_ nc_ sc_ o_ m_ md_ mw_ mv_ mk_ mr_ mo_ mf_ mb_ mx_ mp_ : Nat} {ar ac : Nat → Nat} {K : Nat} {n : Nat} {dn : Nat → Nat} {wn : Nat → Nat} {vn : Nat → Nat} {tk : Int64} {kn : Nat → Nat} {M : Nat → Nat → Nat} {C : Nat → Nat → Nat} {al : Nat → Nat} {kd : Nat → Nat} {me : Nat → Nat} {px : Nat} {pcs : Nat} {bt : Bst} {wo : Nat → Int64} {le : Int64} {F : Nat → Nat} {fc : Nat} {nr : Nat → Nat} {nc : Nat → Nat} {sc : Nat → Nat} {ft : Nat} {rw : Nat → Nat} {lb : Nat → Nat} {ov : Nat → Int64}
set_option maxHeartbeats 4000000 in
set_option maxRecDepth 100000 in
theorem lc_dark (hx : p.tables.exec = Jvm.exec) (hb : c.code = cL_law) (hml : c.maxLocals = 7) (hown : s.vm.findClass RL = some m.cls) (hts : ∀ w ∈ wsL_law, w.before #[Value.ref b] s = true) (hX : va_X b L xs s s.heap) (hbl : b < s.heap.size) (hbA : ¬ A b) (hA : ∀ q, s.heap.size ≤ q → A q) (hK : va_K D vwCl (tyl cI cJ cG) s) (hi : i + 4 < L) (hL : L ≤ 2561) (hLI : LI K n dn wn vn kn M C kd px pcs bt F fc nr nc rw lb) (hcs : cells + 1 ≤ 601024 ∧ slots + 6 ≤ 7293000) (hP : va_P D vwCl (hwW cI cJ cG (mwW cI cJ cG [(o_, .inl (cJ, 1, .inr (.inl ov)))] m_ md_ mw_ mv_ mk_ mr_ mo_ mf_ mb_ mx_ mp_ K n dn wn vn tk kn M wo le kd px F fc ft rw lb) h_ c_ d_ w_ v_ t_ rk_ ro_ rc_ al_ b_ ka_ na_ jo_ me_ wo_ fd_ nr_ nc_ sc_ ar ac K n dn wn vn tk kn M C al kd me px pcs bt wo le F fc nr nc sc) H) (hD : va_D A (hwW cI cJ cG (mwW cI cJ cG [(o_, .inl (cJ, 1, .inr (.inl ov)))] m_ md_ mw_ mv_ mk_ mr_ mo_ mf_ mb_ mx_ mp_ K n dn wn vn tk kn M wo le kd px F fc ft rw lb) h_ c_ d_ w_ v_ t_ rk_ ro_ rc_ al_ b_ ka_ na_ jo_ me_ wo_ fd_ nr_ nc_ sc_ ar ac K n dn wn vn tk kn M C al kd me px pcs bt wo le F fc nr nc sc)) (hS : va_S A s.heap H locs) (hl : lv_has ls 7 [(0, .ref b), (1, .ref h_), (2, .ref m_), (3, .ref o_), (4, .int (nI i))]) (kb : ∀ (n : Nat) (dn : Nat → Nat) (wn : Nat → Nat) (vn : Nat → Nat) (tk : Int64) (kn : Nat → Nat) (M : Nat → Nat → Nat) (C : Nat → Nat → Nat) (al : Nat → Nat) (kd : Nat → Nat) (me : Nat → Nat) (px : Nat) (pcs : Nat) (bt : Bst) (wo : Nat → Int64) (le : Int64) (F : Nat → Nat) (fc : Nat) (nr : Nat → Nat) (nc : Nat → Nat) (sc : Nat → Nat) (ft : Nat) (rw : Nat → Nat) (lb : Nat → Nat) (ov : Nat → Int64), LI K n dn wn vn kn M C kd px pcs bt F fc nr nc rw lb → ∀ (H : Heap) (locs : List Loc) (ls : Array Slot), va_P D vwCl (mwW cI cJ cG (hwW cI cJ cG [(o_, .inl (cJ, 1, .inr (.inl ov)))] h_ c_ d_ w_ v_ t_ rk_ ro_ rc_ al_ b_ ka_ na_ jo_ me_ wo_ fd_ nr_ nc_ sc_ ar ac K n dn wn vn tk kn M C al kd me px pcs bt wo le F fc nr nc sc) m_ md_ mw_ mv_ mk_ mr_ mo_ mf_ mb_ mx_ mp_ K n dn wn vn tk kn M wo le kd px F fc ft rw lb) H → va_D A (mwW cI cJ cG (hwW cI cJ cG [(o_, .inl (cJ, 1, .inr (.inl ov)))] h_ c_ d_ w_ v_ t_ rk_ ro_ rc_ al_ b_ ka_ na_ jo_ me_ wo_ fd_ nr_ nc_ sc_ ar ac K n dn wn vn tk kn M C al kd me px pcs bt wo le F fc nr nc sc) m_ md_ mw_ mv_ mk_ mr_ mo_ mf_ mb_ mx_ mp_ K n dn wn vn tk kn M wo le kd px F fc ft rw lb) → va_S A s.heap H locs → lv_has ls 7 [(0, .ref b), (1, .ref h_), (2, .ref m_), (3, .ref o_), (4, .int (nI i))] → W p l e room_1 s m #[Value.ref b] below meth c H locs (cells + 1) (slots + 6) Q (F0 m 847 ls [])) : W p l e room_1 s m #[Value.ref b] below meth c H locs cells slots Q (F0 m 215 ls []) := by
  have hc0 : cells + 0 ≤ room_1.cells := by show cells + 0 ≤ 601024; omega
  have hs0 : slots + 0 ≤ room_1.slots := by show slots + 0 ≤ 7293000; omega
  refine lv_aload_n hx hb dL_law_215 rfl (lv_at hl 1 rfl) ?_
  refine lv_aload_n hx hb dL_law_216 rfl (lv_at hl 0 rfl) ?_
  refine lv_iload hx hb dL_law_217 (lv_at hl 4 rfl) ?_
  refine lv_iconst (v := 1) hx hb dL_law_219 (by decide) ?_
  refine lv_iadd hx hb dL_law_220 ?_
  refine lv_topi (fun x220 ex220 => ?_)
  obtain rfl : x220 = nI (i + 1) := by rw [ex220]; exact nI_add i 1
  refine va_sld hx hb hX hbl hbA hS (vp_in_nI (by omega) (by omega)) dL_law_221 ?_
  refine lv_topi (fun x221 ex221 => ?_)
  obtain rfl : x221 = xs (i + 1) := by rw [ex221, nI_clamp (by omega)]
  refine lv_aload_n hx hb dL_law_222 rfl (lv_at hl 0 rfl) ?_
  refine lv_iload hx hb dL_law_223 (lv_at hl 4 rfl) ?_
  refine lv_iconst (v := 2) hx hb dL_law_225 (by decide) ?_
  refine lv_iadd hx hb dL_law_226 ?_
  refine lv_topi (fun x226 ex226 => ?_)
  obtain rfl : x226 = nI (i + 2) := by rw [ex226]; exact nI_add i 2
  refine va_sld hx hb hX hbl hbA hS (vp_in_nI (by omega) (by omega)) dL_law_227 ?_
  refine lv_topi (fun x227 ex227 => ?_)
  obtain rfl : x227 = xs (i + 2) := by rw [ex227, nI_clamp (by omega)]
  refine gc_Vi (As := [.int (xs (i + 1)), .int (xs (i + 2))]) (rest := []) (ci := 4) (q0 := 0) ⟨hx, hb, hml, hown, hts⟩ (c_X3_dark l D cI cJ cG H.size (mwW cI cJ cG [(o_, .inl (cJ, 1, .inr (.inl ov)))] m_ md_ mw_ mv_ mk_ mr_ mo_ mf_ mb_ mx_ mp_ K n dn wn vn tk kn M wo le kd px F fc ft rw lb) h_ c_ d_ w_ v_ t_ rk_ ro_ rc_ al_ b_ ka_ na_ jo_ me_ wo_ fd_ nr_ nc_ sc_ ar ac K n dn wn vn tk kn M C al kd me px pcs bt wo le F fc nr nc sc (xs (i + 1)) (xs (i + 2)) hLI.h) (cwV 2 hts gL_law_X3_dark rfl rfl rfl (by decide +kernel) ⟨Nat.le_of_ble_eq_true rfl, Nat.le_of_ble_eq_true rfl⟩) rfl rfl rfl hK hP hD hS hA rfl hl.1 rfl (Nat.le_of_ble_eq_true rfl) dL_law_228 ⟨hc0, hs0⟩ (fun r1 u1 H locs h1 hP hD hS => ?_)
  obtain ⟨e1, rfl⟩ := h1
  have hP : va_P D vwCl (hwW cI cJ cG (mwW cI cJ cG [(o_, .inl (cJ, 1, .inr (.inl ov)))] m_ md_ mw_ mv_ mk_ mr_ mo_ mf_ mb_ mx_ mp_ K n dn wn vn tk kn M wo le kd px F fc ft rw lb) h_ c_ d_ w_ v_ t_ rk_ ro_ rc_ al_ b_ ka_ na_ jo_ me_ wo_ fd_ nr_ nc_ sc_ ar ac K n (setN (xs (i + 1)) (xs (i + 2)) dn) wn vn tk kn M C al kd me px pcs bt wo le F fc nr nc sc) H := hP
  have hD : va_D A (hwW cI cJ cG (mwW cI cJ cG [(o_, .inl (cJ, 1, .inr (.inl ov)))] m_ md_ mw_ mv_ mk_ mr_ mo_ mf_ mb_ mx_ mp_ K n dn wn vn tk kn M wo le kd px F fc ft rw lb) h_ c_ d_ w_ v_ t_ rk_ ro_ rc_ al_ b_ ka_ na_ jo_ me_ wo_ fd_ nr_ nc_ sc_ ar ac K n (setN (xs (i + 1)) (xs (i + 2)) dn) wn vn tk kn M C al kd me px pcs bt wo le F fc nr nc sc) := hD
  refine lv_aload_n hx hb dL_law_231 rfl (lv_at hl 2 rfl) ?_
  refine lv_aload_n hx hb dL_law_232 rfl (lv_at hl 0 rfl) ?_
  refine lv_iload hx hb dL_law_233 (lv_at hl 4 rfl) ?_
  refine lv_iconst (v := 1) hx hb dL_law_235 (by decide) ?_
  refine lv_iadd hx hb dL_law_236 ?_
  refine lv_topi (fun x236 ex236 => ?_)
  obtain rfl : x236 = nI (i + 1) := by rw [ex236]; exact nI_add i 1
  refine va_sld hx hb hX hbl hbA hS (vp_in_nI (by omega) (by omega)) dL_law_237 ?_
  refine lv_topi (fun x237 ex237 => ?_)
  obtain rfl : x237 = xs (i + 1) := by rw [ex237, nI_clamp (by omega)]
  refine lv_aload_n hx hb dL_law_238 rfl (lv_at hl 0 rfl) ?_
  refine lv_iload hx hb dL_law_239 (lv_at hl 4 rfl) ?_
  refine lv_iconst (v := 2) hx hb dL_law_241 (by decide) ?_
  refine lv_iadd hx hb dL_law_242 ?_
  refine lv_topi (fun x242 ex242 => ?_)
  obtain rfl : x242 = nI (i + 2) := by rw [ex242]; exact nI_add i 2
  refine va_sld hx hb hX hbl hbA hS (vp_in_nI (by omega) (by omega)) dL_law_243 ?_
  refine lv_topi (fun x243 ex243 => ?_)
  obtain rfl : x243 = xs (i + 2) := by rw [ex243, nI_clamp (by omega)]
  have hP := hm_P hP
  have hD := hm_D hD
  have hP : va_P D vwCl (mwW cI cJ cG (hwW cI cJ cG [(o_, .inl (cJ, 1, .inr (.inl ov)))] h_ c_ d_ w_ v_ t_ rk_ ro_ rc_ al_ b_ ka_ na_ jo_ me_ wo_ fd_ nr_ nc_ sc_ ar ac K n (setN (xs (i + 1)) (xs (i + 2)) dn) wn vn tk kn M C al kd me px pcs bt wo le F fc nr nc sc) m_ md_ mw_ mv_ mk_ mr_ mo_ mf_ mb_ mx_ mp_ K n dn wn vn tk kn M wo le kd px F fc ft rw lb) H := hP
  have hD : va_D A (mwW cI cJ cG (hwW cI cJ cG [(o_, .inl (cJ, 1, .inr (.inl ov)))] h_ c_ d_ w_ v_ t_ rk_ ro_ rc_ al_ b_ ka_ na_ jo_ me_ wo_ fd_ nr_ nc_ sc_ ar ac K n (setN (xs (i + 1)) (xs (i + 2)) dn) wn vn tk kn M C al kd me px pcs bt wo le F fc nr nc sc) m_ md_ mw_ mv_ mk_ mr_ mo_ mf_ mb_ mx_ mp_ K n dn wn vn tk kn M wo le kd px F fc ft rw lb) := hD
  refine gc_Vi (As := [.int (xs (i + 1)), .int (xs (i + 2))]) (rest := [.int r1]) (ci := 5) (q0 := 0) ⟨hx, hb, hml, hown, hts⟩ (c_X4_dark l D cI cJ cG H.size (hwW cI cJ cG [(o_, .inl (cJ, 1, .inr (.inl ov)))] h_ c_ d_ w_ v_ t_ rk_ ro_ rc_ al_ b_ ka_ na_ jo_ me_ wo_ fd_ nr_ nc_ sc_ ar ac K n (setN (xs (i + 1)) (xs (i + 2)) dn) wn vn tk kn M C al kd me px pcs bt wo le F fc nr nc sc) m_ md_ mw_ mv_ mk_ mr_ mo_ mf_ mb_ mx_ mp_ K n dn wn vn tk kn M wo le kd px F fc ft rw lb (xs (i + 1)) (xs (i + 2)) hLI.m) (cwV 2 hts gL_law_X4_dark rfl rfl rfl (by decide +kernel) ⟨Nat.le_of_ble_eq_true rfl, Nat.le_of_ble_eq_true rfl⟩) rfl rfl rfl hK hP hD hS hA rfl hl.1 rfl (Nat.le_of_ble_eq_true rfl) dL_law_244 ⟨hc0, hs0⟩ (fun r2 u2 H locs h2 hP hD hS => ?_)
  obtain ⟨e2, rfl⟩ := h2
  have hP : va_P D vwCl (mwW cI cJ cG (hwW cI cJ cG [(o_, .inl (cJ, 1, .inr (.inl ov)))] h_ c_ d_ w_ v_ t_ rk_ ro_ rc_ al_ b_ ka_ na_ jo_ me_ wo_ fd_ nr_ nc_ sc_ ar ac K n (setN (xs (i + 1)) (xs (i + 2)) dn) wn vn tk kn M C al kd me px pcs bt wo le F fc nr nc sc) m_ md_ mw_ mv_ mk_ mr_ mo_ mf_ mb_ mx_ mp_ K n (setN (xs (i + 1)) (xs (i + 2)) dn) wn vn tk kn M wo le kd px F fc 0 rw lb) H := hP
  have hD : va_D A (mwW cI cJ cG (hwW cI cJ cG [(o_, .inl (cJ, 1, .inr (.inl ov)))] h_ c_ d_ w_ v_ t_ rk_ ro_ rc_ al_ b_ ka_ na_ jo_ me_ wo_ fd_ nr_ nc_ sc_ ar ac K n (setN (xs (i + 1)) (xs (i + 2)) dn) wn vn tk kn M C al kd me px pcs bt wo le F fc nr nc sc) m_ md_ mw_ mv_ mk_ mr_ mo_ mf_ mb_ mx_ mp_ K n (setN (xs (i + 1)) (xs (i + 2)) dn) wn vn tk kn M wo le kd px F fc 0 rw lb) := hD
  have hreq : r1 = r2 := by rw [e1, e2]
  refine lv_icmp_eq (tgt := 847) hx hb dL_law_247 (by decide) (fun c9 => ?_) (fun c9 => absurd hreq c9)
  refine W.widen (k := cells + 1) (n := slots + 6) (by show _ ≤ cells + 1; omega) (by show _ ≤ slots + 6; omega) ?_
  exact kb n (setN (xs (i + 1)) (xs (i + 2)) dn) wn vn tk kn M C al kd me px pcs bt wo le F fc nr nc sc 0 rw lb ov (hLI.dn1 (setN_le hLI.h.2.2.1.1)) H locs ls hP hD hS (lv_sub hl [0, 1, 2, 3, 4] rfl)
set_option maxHeartbeats 4000000 in
set_option maxRecDepth 100000 in
theorem lc_value (hx : p.tables.exec = Jvm.exec) (hb : c.code = cL_law) (hml : c.maxLocals = 7) (hown : s.vm.findClass RL = some m.cls) (hts : ∀ w ∈ wsL_law, w.before #[Value.ref b] s = true) (hX : va_X b L xs s s.heap) (hbl : b < s.heap.size) (hbA : ¬ A b) (hA : ∀ q, s.heap.size ≤ q → A q) (hK : va_K D vwCl (tyl cI cJ cG) s) (hi : i + 4 < L) (hL : L ≤ 2561) (hLI : LI K n dn wn vn kn M C kd px pcs bt F fc nr nc rw lb) (hcs : cells + 1 ≤ 601024 ∧ slots + 6 ≤ 7293000) (hP : va_P D vwCl (hwW cI cJ cG (mwW cI cJ cG [(o_, .inl (cJ, 1, .inr (.inl ov)))] m_ md_ mw_ mv_ mk_ mr_ mo_ mf_ mb_ mx_ mp_ K n dn wn vn tk kn M wo le kd px F fc ft rw lb) h_ c_ d_ w_ v_ t_ rk_ ro_ rc_ al_ b_ ka_ na_ jo_ me_ wo_ fd_ nr_ nc_ sc_ ar ac K n dn wn vn tk kn M C al kd me px pcs bt wo le F fc nr nc sc) H) (hD : va_D A (hwW cI cJ cG (mwW cI cJ cG [(o_, .inl (cJ, 1, .inr (.inl ov)))] m_ md_ mw_ mv_ mk_ mr_ mo_ mf_ mb_ mx_ mp_ K n dn wn vn tk kn M wo le kd px F fc ft rw lb) h_ c_ d_ w_ v_ t_ rk_ ro_ rc_ al_ b_ ka_ na_ jo_ me_ wo_ fd_ nr_ nc_ sc_ ar ac K n dn wn vn tk kn M C al kd me px pcs bt wo le F fc nr nc sc)) (hS : va_S A s.heap H locs) (hl : lv_has ls 7 [(0, .ref b), (1, .ref h_), (2, .ref m_), (3, .ref o_), (4, .int (nI i))]) (kb : ∀ (n : Nat) (dn : Nat → Nat) (wn : Nat → Nat) (vn : Nat → Nat) (tk : Int64) (kn : Nat → Nat) (M : Nat → Nat → Nat) (C : Nat → Nat → Nat) (al : Nat → Nat) (kd : Nat → Nat) (me : Nat → Nat) (px : Nat) (pcs : Nat) (bt : Bst) (wo : Nat → Int64) (le : Int64) (F : Nat → Nat) (fc : Nat) (nr : Nat → Nat) (nc : Nat → Nat) (sc : Nat → Nat) (ft : Nat) (rw : Nat → Nat) (lb : Nat → Nat) (ov : Nat → Int64), LI K n dn wn vn kn M C kd px pcs bt F fc nr nc rw lb → ∀ (H : Heap) (locs : List Loc) (ls : Array Slot), va_P D vwCl (mwW cI cJ cG (hwW cI cJ cG [(o_, .inl (cJ, 1, .inr (.inl ov)))] h_ c_ d_ w_ v_ t_ rk_ ro_ rc_ al_ b_ ka_ na_ jo_ me_ wo_ fd_ nr_ nc_ sc_ ar ac K n dn wn vn tk kn M C al kd me px pcs bt wo le F fc nr nc sc) m_ md_ mw_ mv_ mk_ mr_ mo_ mf_ mb_ mx_ mp_ K n dn wn vn tk kn M wo le kd px F fc ft rw lb) H → va_D A (mwW cI cJ cG (hwW cI cJ cG [(o_, .inl (cJ, 1, .inr (.inl ov)))] h_ c_ d_ w_ v_ t_ rk_ ro_ rc_ al_ b_ ka_ na_ jo_ me_ wo_ fd_ nr_ nc_ sc_ ar ac K n dn wn vn tk kn M C al kd me px pcs bt wo le F fc nr nc sc) m_ md_ mw_ mv_ mk_ mr_ mo_ mf_ mb_ mx_ mp_ K n dn wn vn tk kn M wo le kd px F fc ft rw lb) → va_S A s.heap H locs → lv_has ls 7 [(0, .ref b), (1, .ref h_), (2, .ref m_), (3, .ref o_), (4, .int (nI i))] → W p l e room_1 s m #[Value.ref b] below meth c H locs (cells + 1) (slots + 6) Q (F0 m 847 ls [])) : W p l e room_1 s m #[Value.ref b] below meth c H locs cells slots Q (F0 m 252 ls []) := by
  have hc0 : cells + 0 ≤ room_1.cells := by show cells + 0 ≤ 601024; omega
  have hs0 : slots + 0 ≤ room_1.slots := by show slots + 0 ≤ 7293000; omega
  refine lv_aload_n hx hb dL_law_252 rfl (lv_at hl 1 rfl) ?_
  refine lv_aload_n hx hb dL_law_253 rfl (lv_at hl 0 rfl) ?_
  refine lv_iload hx hb dL_law_254 (lv_at hl 4 rfl) ?_
  refine lv_iconst (v := 1) hx hb dL_law_256 (by decide) ?_
  refine lv_iadd hx hb dL_law_257 ?_
  refine lv_topi (fun x257 ex257 => ?_)
  obtain rfl : x257 = nI (i + 1) := by rw [ex257]; exact nI_add i 1
  refine va_sld hx hb hX hbl hbA hS (vp_in_nI (by omega) (by omega)) dL_law_258 ?_
  refine lv_topi (fun x258 ex258 => ?_)
  obtain rfl : x258 = xs (i + 1) := by rw [ex258, nI_clamp (by omega)]
  refine lv_aload_n hx hb dL_law_259 rfl (lv_at hl 0 rfl) ?_
  refine lv_iload hx hb dL_law_260 (lv_at hl 4 rfl) ?_
  refine lv_iconst (v := 2) hx hb dL_law_262 (by decide) ?_
  refine lv_iadd hx hb dL_law_263 ?_
  refine lv_topi (fun x263 ex263 => ?_)
  obtain rfl : x263 = nI (i + 2) := by rw [ex263]; exact nI_add i 2
  refine va_sld hx hb hX hbl hbA hS (vp_in_nI (by omega) (by omega)) dL_law_264 ?_
  refine lv_topi (fun x264 ex264 => ?_)
  obtain rfl : x264 = xs (i + 2) := by rw [ex264, nI_clamp (by omega)]
  refine gc_Vi (As := [.int (xs (i + 1)), .int (xs (i + 2))]) (rest := []) (ci := 4) (q0 := 0) ⟨hx, hb, hml, hown, hts⟩ (c_X3_value l D cI cJ cG H.size (mwW cI cJ cG [(o_, .inl (cJ, 1, .inr (.inl ov)))] m_ md_ mw_ mv_ mk_ mr_ mo_ mf_ mb_ mx_ mp_ K n dn wn vn tk kn M wo le kd px F fc ft rw lb) h_ c_ d_ w_ v_ t_ rk_ ro_ rc_ al_ b_ ka_ na_ jo_ me_ wo_ fd_ nr_ nc_ sc_ ar ac K n dn wn vn tk kn M C al kd me px pcs bt wo le F fc nr nc sc (xs (i + 1)) (xs (i + 2)) hLI.h) (cwV 2 hts gL_law_X3_value rfl rfl rfl (by decide +kernel) ⟨Nat.le_of_ble_eq_true rfl, Nat.le_of_ble_eq_true rfl⟩) rfl rfl rfl hK hP hD hS hA rfl hl.1 rfl (Nat.le_of_ble_eq_true rfl) dL_law_265 ⟨hc0, hs0⟩ (fun r1 u1 H locs h1 hP hD hS => ?_)
  obtain ⟨e1, rfl⟩ := h1
  have hP : va_P D vwCl (hwW cI cJ cG (mwW cI cJ cG [(o_, .inl (cJ, 1, .inr (.inl ov)))] m_ md_ mw_ mv_ mk_ mr_ mo_ mf_ mb_ mx_ mp_ K n dn wn vn tk kn M wo le kd px F fc ft rw lb) h_ c_ d_ w_ v_ t_ rk_ ro_ rc_ al_ b_ ka_ na_ jo_ me_ wo_ fd_ nr_ nc_ sc_ ar ac K n dn wn (setN (xs (i + 1)) (xs (i + 2)) vn) tk kn M C al kd me px pcs bt wo le F fc nr nc sc) H := hP
  have hD : va_D A (hwW cI cJ cG (mwW cI cJ cG [(o_, .inl (cJ, 1, .inr (.inl ov)))] m_ md_ mw_ mv_ mk_ mr_ mo_ mf_ mb_ mx_ mp_ K n dn wn vn tk kn M wo le kd px F fc ft rw lb) h_ c_ d_ w_ v_ t_ rk_ ro_ rc_ al_ b_ ka_ na_ jo_ me_ wo_ fd_ nr_ nc_ sc_ ar ac K n dn wn (setN (xs (i + 1)) (xs (i + 2)) vn) tk kn M C al kd me px pcs bt wo le F fc nr nc sc) := hD
  refine lv_aload_n hx hb dL_law_268 rfl (lv_at hl 2 rfl) ?_
  refine lv_aload_n hx hb dL_law_269 rfl (lv_at hl 0 rfl) ?_
  refine lv_iload hx hb dL_law_270 (lv_at hl 4 rfl) ?_
  refine lv_iconst (v := 1) hx hb dL_law_272 (by decide) ?_
  refine lv_iadd hx hb dL_law_273 ?_
  refine lv_topi (fun x273 ex273 => ?_)
  obtain rfl : x273 = nI (i + 1) := by rw [ex273]; exact nI_add i 1
  refine va_sld hx hb hX hbl hbA hS (vp_in_nI (by omega) (by omega)) dL_law_274 ?_
  refine lv_topi (fun x274 ex274 => ?_)
  obtain rfl : x274 = xs (i + 1) := by rw [ex274, nI_clamp (by omega)]
  refine lv_aload_n hx hb dL_law_275 rfl (lv_at hl 0 rfl) ?_
  refine lv_iload hx hb dL_law_276 (lv_at hl 4 rfl) ?_
  refine lv_iconst (v := 2) hx hb dL_law_278 (by decide) ?_
  refine lv_iadd hx hb dL_law_279 ?_
  refine lv_topi (fun x279 ex279 => ?_)
  obtain rfl : x279 = nI (i + 2) := by rw [ex279]; exact nI_add i 2
  refine va_sld hx hb hX hbl hbA hS (vp_in_nI (by omega) (by omega)) dL_law_280 ?_
  refine lv_topi (fun x280 ex280 => ?_)
  obtain rfl : x280 = xs (i + 2) := by rw [ex280, nI_clamp (by omega)]
  have hP := hm_P hP
  have hD := hm_D hD
  have hP : va_P D vwCl (mwW cI cJ cG (hwW cI cJ cG [(o_, .inl (cJ, 1, .inr (.inl ov)))] h_ c_ d_ w_ v_ t_ rk_ ro_ rc_ al_ b_ ka_ na_ jo_ me_ wo_ fd_ nr_ nc_ sc_ ar ac K n dn wn (setN (xs (i + 1)) (xs (i + 2)) vn) tk kn M C al kd me px pcs bt wo le F fc nr nc sc) m_ md_ mw_ mv_ mk_ mr_ mo_ mf_ mb_ mx_ mp_ K n dn wn vn tk kn M wo le kd px F fc ft rw lb) H := hP
  have hD : va_D A (mwW cI cJ cG (hwW cI cJ cG [(o_, .inl (cJ, 1, .inr (.inl ov)))] h_ c_ d_ w_ v_ t_ rk_ ro_ rc_ al_ b_ ka_ na_ jo_ me_ wo_ fd_ nr_ nc_ sc_ ar ac K n dn wn (setN (xs (i + 1)) (xs (i + 2)) vn) tk kn M C al kd me px pcs bt wo le F fc nr nc sc) m_ md_ mw_ mv_ mk_ mr_ mo_ mf_ mb_ mx_ mp_ K n dn wn vn tk kn M wo le kd px F fc ft rw lb) := hD
  refine gc_Vi (As := [.int (xs (i + 1)), .int (xs (i + 2))]) (rest := [.int r1]) (ci := 5) (q0 := 0) ⟨hx, hb, hml, hown, hts⟩ (c_X4_value l D cI cJ cG H.size (hwW cI cJ cG [(o_, .inl (cJ, 1, .inr (.inl ov)))] h_ c_ d_ w_ v_ t_ rk_ ro_ rc_ al_ b_ ka_ na_ jo_ me_ wo_ fd_ nr_ nc_ sc_ ar ac K n dn wn (setN (xs (i + 1)) (xs (i + 2)) vn) tk kn M C al kd me px pcs bt wo le F fc nr nc sc) m_ md_ mw_ mv_ mk_ mr_ mo_ mf_ mb_ mx_ mp_ K n dn wn vn tk kn M wo le kd px F fc ft rw lb (xs (i + 1)) (xs (i + 2)) hLI.m) (cwV 2 hts gL_law_X4_value rfl rfl rfl (by decide +kernel) ⟨Nat.le_of_ble_eq_true rfl, Nat.le_of_ble_eq_true rfl⟩) rfl rfl rfl hK hP hD hS hA rfl hl.1 rfl (Nat.le_of_ble_eq_true rfl) dL_law_281 ⟨hc0, hs0⟩ (fun r2 u2 H locs h2 hP hD hS => ?_)
  obtain ⟨e2, rfl⟩ := h2
  have hP : va_P D vwCl (mwW cI cJ cG (hwW cI cJ cG [(o_, .inl (cJ, 1, .inr (.inl ov)))] h_ c_ d_ w_ v_ t_ rk_ ro_ rc_ al_ b_ ka_ na_ jo_ me_ wo_ fd_ nr_ nc_ sc_ ar ac K n dn wn (setN (xs (i + 1)) (xs (i + 2)) vn) tk kn M C al kd me px pcs bt wo le F fc nr nc sc) m_ md_ mw_ mv_ mk_ mr_ mo_ mf_ mb_ mx_ mp_ K n dn wn (setN (xs (i + 1)) (xs (i + 2)) vn) tk kn M wo le kd px F fc 0 rw lb) H := hP
  have hD : va_D A (mwW cI cJ cG (hwW cI cJ cG [(o_, .inl (cJ, 1, .inr (.inl ov)))] h_ c_ d_ w_ v_ t_ rk_ ro_ rc_ al_ b_ ka_ na_ jo_ me_ wo_ fd_ nr_ nc_ sc_ ar ac K n dn wn (setN (xs (i + 1)) (xs (i + 2)) vn) tk kn M C al kd me px pcs bt wo le F fc nr nc sc) m_ md_ mw_ mv_ mk_ mr_ mo_ mf_ mb_ mx_ mp_ K n dn wn (setN (xs (i + 1)) (xs (i + 2)) vn) tk kn M wo le kd px F fc 0 rw lb) := hD
  have hreq : r1 = r2 := by rw [e1, e2]
  refine lv_icmp_eq (tgt := 847) hx hb dL_law_284 (by decide) (fun c9 => ?_) (fun c9 => absurd hreq c9)
  refine W.widen (k := cells + 1) (n := slots + 6) (by show _ ≤ cells + 1; omega) (by show _ ≤ slots + 6; omega) ?_
  exact kb n dn wn (setN (xs (i + 1)) (xs (i + 2)) vn) tk kn M C al kd me px pcs bt wo le F fc nr nc sc 0 rw lb ov (hLI.vn1 (setN_le hLI.h.2.2.1.2.2)) H locs ls hP hD hS (lv_sub hl [0, 1, 2, 3, 4] rfl)
set_option maxHeartbeats 4000000 in
set_option maxRecDepth 100000 in
theorem lc_reference (hx : p.tables.exec = Jvm.exec) (hb : c.code = cL_law) (hml : c.maxLocals = 7) (hown : s.vm.findClass RL = some m.cls) (hts : ∀ w ∈ wsL_law, w.before #[Value.ref b] s = true) (hX : va_X b L xs s s.heap) (hbl : b < s.heap.size) (hbA : ¬ A b) (hA : ∀ q, s.heap.size ≤ q → A q) (hK : va_K D vwCl (tyl cI cJ cG) s) (hi : i + 4 < L) (hL : L ≤ 2561) (hLI : LI K n dn wn vn kn M C kd px pcs bt F fc nr nc rw lb) (hcs : cells + 1 ≤ 601024 ∧ slots + 6 ≤ 7293000) (hP : va_P D vwCl (hwW cI cJ cG (mwW cI cJ cG [(o_, .inl (cJ, 1, .inr (.inl ov)))] m_ md_ mw_ mv_ mk_ mr_ mo_ mf_ mb_ mx_ mp_ K n dn wn vn tk kn M wo le kd px F fc ft rw lb) h_ c_ d_ w_ v_ t_ rk_ ro_ rc_ al_ b_ ka_ na_ jo_ me_ wo_ fd_ nr_ nc_ sc_ ar ac K n dn wn vn tk kn M C al kd me px pcs bt wo le F fc nr nc sc) H) (hD : va_D A (hwW cI cJ cG (mwW cI cJ cG [(o_, .inl (cJ, 1, .inr (.inl ov)))] m_ md_ mw_ mv_ mk_ mr_ mo_ mf_ mb_ mx_ mp_ K n dn wn vn tk kn M wo le kd px F fc ft rw lb) h_ c_ d_ w_ v_ t_ rk_ ro_ rc_ al_ b_ ka_ na_ jo_ me_ wo_ fd_ nr_ nc_ sc_ ar ac K n dn wn vn tk kn M C al kd me px pcs bt wo le F fc nr nc sc)) (hS : va_S A s.heap H locs) (hl : lv_has ls 7 [(0, .ref b), (1, .ref h_), (2, .ref m_), (3, .ref o_), (4, .int (nI i))]) (kb : ∀ (n : Nat) (dn : Nat → Nat) (wn : Nat → Nat) (vn : Nat → Nat) (tk : Int64) (kn : Nat → Nat) (M : Nat → Nat → Nat) (C : Nat → Nat → Nat) (al : Nat → Nat) (kd : Nat → Nat) (me : Nat → Nat) (px : Nat) (pcs : Nat) (bt : Bst) (wo : Nat → Int64) (le : Int64) (F : Nat → Nat) (fc : Nat) (nr : Nat → Nat) (nc : Nat → Nat) (sc : Nat → Nat) (ft : Nat) (rw : Nat → Nat) (lb : Nat → Nat) (ov : Nat → Int64), LI K n dn wn vn kn M C kd px pcs bt F fc nr nc rw lb → ∀ (H : Heap) (locs : List Loc) (ls : Array Slot), va_P D vwCl (mwW cI cJ cG (hwW cI cJ cG [(o_, .inl (cJ, 1, .inr (.inl ov)))] h_ c_ d_ w_ v_ t_ rk_ ro_ rc_ al_ b_ ka_ na_ jo_ me_ wo_ fd_ nr_ nc_ sc_ ar ac K n dn wn vn tk kn M C al kd me px pcs bt wo le F fc nr nc sc) m_ md_ mw_ mv_ mk_ mr_ mo_ mf_ mb_ mx_ mp_ K n dn wn vn tk kn M wo le kd px F fc ft rw lb) H → va_D A (mwW cI cJ cG (hwW cI cJ cG [(o_, .inl (cJ, 1, .inr (.inl ov)))] h_ c_ d_ w_ v_ t_ rk_ ro_ rc_ al_ b_ ka_ na_ jo_ me_ wo_ fd_ nr_ nc_ sc_ ar ac K n dn wn vn tk kn M C al kd me px pcs bt wo le F fc nr nc sc) m_ md_ mw_ mv_ mk_ mr_ mo_ mf_ mb_ mx_ mp_ K n dn wn vn tk kn M wo le kd px F fc ft rw lb) → va_S A s.heap H locs → lv_has ls 7 [(0, .ref b), (1, .ref h_), (2, .ref m_), (3, .ref o_), (4, .int (nI i))] → W p l e room_1 s m #[Value.ref b] below meth c H locs (cells + 1) (slots + 6) Q (F0 m 847 ls [])) : W p l e room_1 s m #[Value.ref b] below meth c H locs cells slots Q (F0 m 289 ls []) := by
  have hc0 : cells + 0 ≤ room_1.cells := by show cells + 0 ≤ 601024; omega
  have hs0 : slots + 0 ≤ room_1.slots := by show slots + 0 ≤ 7293000; omega
  refine lv_aload_n hx hb dL_law_289 rfl (lv_at hl 1 rfl) ?_
  refine lv_aload_n hx hb dL_law_290 rfl (lv_at hl 0 rfl) ?_
  refine lv_iload hx hb dL_law_291 (lv_at hl 4 rfl) ?_
  refine lv_iconst (v := 1) hx hb dL_law_293 (by decide) ?_
  refine lv_iadd hx hb dL_law_294 ?_
  refine lv_topi (fun x294 ex294 => ?_)
  obtain rfl : x294 = nI (i + 1) := by rw [ex294]; exact nI_add i 1
  refine va_sld hx hb hX hbl hbA hS (vp_in_nI (by omega) (by omega)) dL_law_295 ?_
  refine lv_topi (fun x295 ex295 => ?_)
  obtain rfl : x295 = xs (i + 1) := by rw [ex295, nI_clamp (by omega)]
  refine lv_aload_n hx hb dL_law_296 rfl (lv_at hl 0 rfl) ?_
  refine lv_iload hx hb dL_law_297 (lv_at hl 4 rfl) ?_
  refine lv_iconst (v := 2) hx hb dL_law_299 (by decide) ?_
  refine lv_iadd hx hb dL_law_300 ?_
  refine lv_topi (fun x300 ex300 => ?_)
  obtain rfl : x300 = nI (i + 2) := by rw [ex300]; exact nI_add i 2
  refine va_sld hx hb hX hbl hbA hS (vp_in_nI (by omega) (by omega)) dL_law_301 ?_
  refine lv_topi (fun x301 ex301 => ?_)
  obtain rfl : x301 = xs (i + 2) := by rw [ex301, nI_clamp (by omega)]
  refine lv_aload_n hx hb dL_law_302 rfl (lv_at hl 0 rfl) ?_
  refine lv_iload hx hb dL_law_303 (lv_at hl 4 rfl) ?_
  refine lv_iconst (v := 3) hx hb dL_law_305 (by decide) ?_
  refine lv_iadd hx hb dL_law_306 ?_
  refine lv_topi (fun x306 ex306 => ?_)
  obtain rfl : x306 = nI (i + 3) := by rw [ex306]; exact nI_add i 3
  refine va_sld hx hb hX hbl hbA hS (vp_in_nI (by omega) (by omega)) dL_law_307 ?_
  refine lv_topi (fun x307 ex307 => ?_)
  obtain rfl : x307 = xs (i + 3) := by rw [ex307, nI_clamp (by omega)]
  refine lv_i2l hx hb dL_law_308 rfl ?_
  refine lv_bipush (v := 32) hx hb dL_law_309 (by decide) ?_
  refine lv_lshl hx hb dL_law_311 rfl ?_
  refine lv_aload_n hx hb dL_law_312 rfl (lv_at hl 0 rfl) ?_
  refine lv_iload hx hb dL_law_313 (lv_at hl 4 rfl) ?_
  refine lv_iconst (v := 4) hx hb dL_law_315 (by decide) ?_
  refine lv_iadd hx hb dL_law_316 ?_
  refine lv_topi (fun x316 ex316 => ?_)
  obtain rfl : x316 = nI (i + 4) := by rw [ex316]; exact nI_add i 4
  refine va_sld hx hb hX hbl hbA hS (vp_in_nI (by omega) (by omega)) dL_law_317 ?_
  refine lv_topi (fun x317 ex317 => ?_)
  obtain rfl : x317 = xs (i + 4) := by rw [ex317, nI_clamp (by omega)]
  refine lv_i2l hx hb dL_law_318 rfl ?_
  refine lv_ldc2 (v := 4294967295) hx hb hown (hts (.constantLong RL 43 (4294967295)) (by decide +kernel)) dL_law_319 ?_
  refine lv_land hx hb dL_law_322 ?_
  refine lv_lor hx hb dL_law_323 ?_
  refine lv_topl (fun x323 ex323 => ?_)
  obtain rfl : x323 = lgv (xs (i + 3)) (xs (i + 4)) := by rw [ex323]; rfl
  refine gc_Vi (As := [.int (xs (i + 1)), .int (xs (i + 2)), .long (lgv (xs (i + 3)) (xs (i + 4)))]) (rest := []) (ci := 4) (q0 := 0) ⟨hx, hb, hml, hown, hts⟩ (c_X3_reference l D cI cJ cG H.size (mwW cI cJ cG [(o_, .inl (cJ, 1, .inr (.inl ov)))] m_ md_ mw_ mv_ mk_ mr_ mo_ mf_ mb_ mx_ mp_ K n dn wn vn tk kn M wo le kd px F fc ft rw lb) h_ c_ d_ w_ v_ t_ rk_ ro_ rc_ al_ b_ ka_ na_ jo_ me_ wo_ fd_ nr_ nc_ sc_ ar ac K n dn wn vn tk kn M C al kd me px pcs bt wo le F fc nr nc sc (xs (i + 1)) (xs (i + 2)) (lgv (xs (i + 3)) (xs (i + 4))) hLI.h) (cwV 3 hts gL_law_X3_reference rfl rfl rfl (by decide +kernel) ⟨Nat.le_of_ble_eq_true rfl, Nat.le_of_ble_eq_true rfl⟩) rfl rfl rfl hK hP hD hS hA rfl hl.1 rfl (Nat.le_of_ble_eq_true rfl) dL_law_324 ⟨hc0, hs0⟩ (fun r1 u1 H locs h1 hP hD hS => ?_)
  obtain ⟨e1, rfl⟩ := h1
  have hP : va_P D vwCl (hwW cI cJ cG (mwW cI cJ cG [(o_, .inl (cJ, 1, .inr (.inl ov)))] m_ md_ mw_ mv_ mk_ mr_ mo_ mf_ mb_ mx_ mp_ K n dn wn vn tk kn M wo le kd px F fc ft rw lb) h_ c_ d_ w_ v_ t_ rk_ ro_ rc_ al_ b_ ka_ na_ jo_ me_ wo_ fd_ nr_ nc_ sc_ ar ac K n dn ((refN (xs (i + 1)) (xs (i + 2)) (lgv (xs (i + 3)) (xs (i + 4))) wn tk).1) vn ((refN (xs (i + 1)) (xs (i + 2)) (lgv (xs (i + 3)) (xs (i + 4))) wn tk).2) kn M C al kd me px pcs bt wo le F fc nr nc sc) H := hP
  have hD : va_D A (hwW cI cJ cG (mwW cI cJ cG [(o_, .inl (cJ, 1, .inr (.inl ov)))] m_ md_ mw_ mv_ mk_ mr_ mo_ mf_ mb_ mx_ mp_ K n dn wn vn tk kn M wo le kd px F fc ft rw lb) h_ c_ d_ w_ v_ t_ rk_ ro_ rc_ al_ b_ ka_ na_ jo_ me_ wo_ fd_ nr_ nc_ sc_ ar ac K n dn ((refN (xs (i + 1)) (xs (i + 2)) (lgv (xs (i + 3)) (xs (i + 4))) wn tk).1) vn ((refN (xs (i + 1)) (xs (i + 2)) (lgv (xs (i + 3)) (xs (i + 4))) wn tk).2) kn M C al kd me px pcs bt wo le F fc nr nc sc) := hD
  refine lv_aload_n hx hb dL_law_327 rfl (lv_at hl 2 rfl) ?_
  refine lv_aload_n hx hb dL_law_328 rfl (lv_at hl 0 rfl) ?_
  refine lv_iload hx hb dL_law_329 (lv_at hl 4 rfl) ?_
  refine lv_iconst (v := 1) hx hb dL_law_331 (by decide) ?_
  refine lv_iadd hx hb dL_law_332 ?_
  refine lv_topi (fun x332 ex332 => ?_)
  obtain rfl : x332 = nI (i + 1) := by rw [ex332]; exact nI_add i 1
  refine va_sld hx hb hX hbl hbA hS (vp_in_nI (by omega) (by omega)) dL_law_333 ?_
  refine lv_topi (fun x333 ex333 => ?_)
  obtain rfl : x333 = xs (i + 1) := by rw [ex333, nI_clamp (by omega)]
  refine lv_aload_n hx hb dL_law_334 rfl (lv_at hl 0 rfl) ?_
  refine lv_iload hx hb dL_law_335 (lv_at hl 4 rfl) ?_
  refine lv_iconst (v := 2) hx hb dL_law_337 (by decide) ?_
  refine lv_iadd hx hb dL_law_338 ?_
  refine lv_topi (fun x338 ex338 => ?_)
  obtain rfl : x338 = nI (i + 2) := by rw [ex338]; exact nI_add i 2
  refine va_sld hx hb hX hbl hbA hS (vp_in_nI (by omega) (by omega)) dL_law_339 ?_
  refine lv_topi (fun x339 ex339 => ?_)
  obtain rfl : x339 = xs (i + 2) := by rw [ex339, nI_clamp (by omega)]
  refine lv_aload_n hx hb dL_law_340 rfl (lv_at hl 0 rfl) ?_
  refine lv_iload hx hb dL_law_341 (lv_at hl 4 rfl) ?_
  refine lv_iconst (v := 3) hx hb dL_law_343 (by decide) ?_
  refine lv_iadd hx hb dL_law_344 ?_
  refine lv_topi (fun x344 ex344 => ?_)
  obtain rfl : x344 = nI (i + 3) := by rw [ex344]; exact nI_add i 3
  refine va_sld hx hb hX hbl hbA hS (vp_in_nI (by omega) (by omega)) dL_law_345 ?_
  refine lv_topi (fun x345 ex345 => ?_)
  obtain rfl : x345 = xs (i + 3) := by rw [ex345, nI_clamp (by omega)]
  refine lv_i2l hx hb dL_law_346 rfl ?_
  refine lv_bipush (v := 32) hx hb dL_law_347 (by decide) ?_
  refine lv_lshl hx hb dL_law_349 rfl ?_
  refine lv_aload_n hx hb dL_law_350 rfl (lv_at hl 0 rfl) ?_
  refine lv_iload hx hb dL_law_351 (lv_at hl 4 rfl) ?_
  refine lv_iconst (v := 4) hx hb dL_law_353 (by decide) ?_
  refine lv_iadd hx hb dL_law_354 ?_
  refine lv_topi (fun x354 ex354 => ?_)
  obtain rfl : x354 = nI (i + 4) := by rw [ex354]; exact nI_add i 4
  refine va_sld hx hb hX hbl hbA hS (vp_in_nI (by omega) (by omega)) dL_law_355 ?_
  refine lv_topi (fun x355 ex355 => ?_)
  obtain rfl : x355 = xs (i + 4) := by rw [ex355, nI_clamp (by omega)]
  refine lv_i2l hx hb dL_law_356 rfl ?_
  refine lv_ldc2 (v := 4294967295) hx hb hown (hts (.constantLong RL 43 (4294967295)) (by decide +kernel)) dL_law_357 ?_
  refine lv_land hx hb dL_law_360 ?_
  refine lv_lor hx hb dL_law_361 ?_
  refine lv_topl (fun x361 ex361 => ?_)
  obtain rfl : x361 = lgv (xs (i + 3)) (xs (i + 4)) := by rw [ex361]; rfl
  have hP := hm_P hP
  have hD := hm_D hD
  have hP : va_P D vwCl (mwW cI cJ cG (hwW cI cJ cG [(o_, .inl (cJ, 1, .inr (.inl ov)))] h_ c_ d_ w_ v_ t_ rk_ ro_ rc_ al_ b_ ka_ na_ jo_ me_ wo_ fd_ nr_ nc_ sc_ ar ac K n dn ((refN (xs (i + 1)) (xs (i + 2)) (lgv (xs (i + 3)) (xs (i + 4))) wn tk).1) vn ((refN (xs (i + 1)) (xs (i + 2)) (lgv (xs (i + 3)) (xs (i + 4))) wn tk).2) kn M C al kd me px pcs bt wo le F fc nr nc sc) m_ md_ mw_ mv_ mk_ mr_ mo_ mf_ mb_ mx_ mp_ K n dn wn vn tk kn M wo le kd px F fc ft rw lb) H := hP
  have hD : va_D A (mwW cI cJ cG (hwW cI cJ cG [(o_, .inl (cJ, 1, .inr (.inl ov)))] h_ c_ d_ w_ v_ t_ rk_ ro_ rc_ al_ b_ ka_ na_ jo_ me_ wo_ fd_ nr_ nc_ sc_ ar ac K n dn ((refN (xs (i + 1)) (xs (i + 2)) (lgv (xs (i + 3)) (xs (i + 4))) wn tk).1) vn ((refN (xs (i + 1)) (xs (i + 2)) (lgv (xs (i + 3)) (xs (i + 4))) wn tk).2) kn M C al kd me px pcs bt wo le F fc nr nc sc) m_ md_ mw_ mv_ mk_ mr_ mo_ mf_ mb_ mx_ mp_ K n dn wn vn tk kn M wo le kd px F fc ft rw lb) := hD
  refine gc_Vi (As := [.int (xs (i + 1)), .int (xs (i + 2)), .long (lgv (xs (i + 3)) (xs (i + 4)))]) (rest := [.int r1]) (ci := 5) (q0 := 0) ⟨hx, hb, hml, hown, hts⟩ (c_X4_reference l D cI cJ cG H.size (hwW cI cJ cG [(o_, .inl (cJ, 1, .inr (.inl ov)))] h_ c_ d_ w_ v_ t_ rk_ ro_ rc_ al_ b_ ka_ na_ jo_ me_ wo_ fd_ nr_ nc_ sc_ ar ac K n dn ((refN (xs (i + 1)) (xs (i + 2)) (lgv (xs (i + 3)) (xs (i + 4))) wn tk).1) vn ((refN (xs (i + 1)) (xs (i + 2)) (lgv (xs (i + 3)) (xs (i + 4))) wn tk).2) kn M C al kd me px pcs bt wo le F fc nr nc sc) m_ md_ mw_ mv_ mk_ mr_ mo_ mf_ mb_ mx_ mp_ K n dn wn vn tk kn M wo le kd px F fc ft rw lb (xs (i + 1)) (xs (i + 2)) (lgv (xs (i + 3)) (xs (i + 4))) hLI.m) (cwV 3 hts gL_law_X4_reference rfl rfl rfl (by decide +kernel) ⟨Nat.le_of_ble_eq_true rfl, Nat.le_of_ble_eq_true rfl⟩) rfl rfl rfl hK hP hD hS hA rfl hl.1 rfl (Nat.le_of_ble_eq_true rfl) dL_law_362 ⟨hc0, hs0⟩ (fun r2 u2 H locs h2 hP hD hS => ?_)
  obtain ⟨e2, rfl⟩ := h2
  have hP : va_P D vwCl (mwW cI cJ cG (hwW cI cJ cG [(o_, .inl (cJ, 1, .inr (.inl ov)))] h_ c_ d_ w_ v_ t_ rk_ ro_ rc_ al_ b_ ka_ na_ jo_ me_ wo_ fd_ nr_ nc_ sc_ ar ac K n dn ((refN (xs (i + 1)) (xs (i + 2)) (lgv (xs (i + 3)) (xs (i + 4))) wn tk).1) vn ((refN (xs (i + 1)) (xs (i + 2)) (lgv (xs (i + 3)) (xs (i + 4))) wn tk).2) kn M C al kd me px pcs bt wo le F fc nr nc sc) m_ md_ mw_ mv_ mk_ mr_ mo_ mf_ mb_ mx_ mp_ K n dn ((refN (xs (i + 1)) (xs (i + 2)) (lgv (xs (i + 3)) (xs (i + 4))) wn tk).1) vn ((refN (xs (i + 1)) (xs (i + 2)) (lgv (xs (i + 3)) (xs (i + 4))) wn tk).2) kn M wo le kd px F fc 0 rw lb) H := hP
  have hD : va_D A (mwW cI cJ cG (hwW cI cJ cG [(o_, .inl (cJ, 1, .inr (.inl ov)))] h_ c_ d_ w_ v_ t_ rk_ ro_ rc_ al_ b_ ka_ na_ jo_ me_ wo_ fd_ nr_ nc_ sc_ ar ac K n dn ((refN (xs (i + 1)) (xs (i + 2)) (lgv (xs (i + 3)) (xs (i + 4))) wn tk).1) vn ((refN (xs (i + 1)) (xs (i + 2)) (lgv (xs (i + 3)) (xs (i + 4))) wn tk).2) kn M C al kd me px pcs bt wo le F fc nr nc sc) m_ md_ mw_ mv_ mk_ mr_ mo_ mf_ mb_ mx_ mp_ K n dn ((refN (xs (i + 1)) (xs (i + 2)) (lgv (xs (i + 3)) (xs (i + 4))) wn tk).1) vn ((refN (xs (i + 1)) (xs (i + 2)) (lgv (xs (i + 3)) (xs (i + 4))) wn tk).2) kn M wo le kd px F fc 0 rw lb) := hD
  have hreq : r1 = r2 := by rw [e1, e2]
  refine lv_icmp_eq (tgt := 847) hx hb dL_law_365 (by decide) (fun c9 => ?_) (fun c9 => absurd hreq c9)
  refine W.widen (k := cells + 1) (n := slots + 6) (by show _ ≤ cells + 1; omega) (by show _ ≤ slots + 6; omega) ?_
  exact kb n dn ((refN (xs (i + 1)) (xs (i + 2)) (lgv (xs (i + 3)) (xs (i + 4))) wn tk).1) vn ((refN (xs (i + 1)) (xs (i + 2)) (lgv (xs (i + 3)) (xs (i + 4))) wn tk).2) kn M C al kd me px pcs bt wo le F fc nr nc sc 0 rw lb ov (hLI.wn1 (ref_le hLI.h.2.2.1.2.1)) H locs ls hP hD hS (lv_sub hl [0, 1, 2, 3, 4] rfl)
end LAWC
