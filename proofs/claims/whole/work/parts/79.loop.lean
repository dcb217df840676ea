set_option maxHeartbeats 4000000 in
set_option maxRecDepth 100000 in
theorem law_loop {p : Program} {l : Launch} {e : Env} {s : State} {m : MethodId} {below : List Frame} {meth : Method} {c : Code} (hfl : l.flags = pinnedFlags ++ [noTraceFlag]) {b L : Nat} {xs : Nat → Int32} (hL : L ≤ 2561) (C0 : lw_At p s m meth c b L xs) {D : va_G} {cI cJ cG : ClassId} (hK : va_K D vwCl (tyl cI cJ cG) s) {sx : Nat} (hT : gThr sx s) {h_ c_ d_ w_ v_ t_ rk_ ro_ rc_ al_ b_ ka_ na_ jo_ me_ wo_ fd_ nr_ nc_ sc_ o_ m_ md_ mw_ mv_ mk_ mr_ mo_ mf_ mb_ mx_ mp_ : Nat} {ar ac : Nat → Nat} {K : Nat} {A : Nat → Prop} (hA : ∀ q, s.heap.size ≤ q → A q) (hA2 : ∀ q, A q → s.heap.size ≤ q) : ∀ (n_ k : Nat) (n : Nat) (dn : Nat → Nat) (wn : Nat → Nat) (vn : Nat → Nat) (tk : Int64) (kn : Nat → Nat) (M : Nat → Nat → Nat) (C : Nat → Nat → Nat) (al : Nat → Nat) (kd : Nat → Nat) (me : Nat → Nat) (px : Nat) (pcs : Nat) (bt : Bst) (wo : Nat → Int64) (le : Int64) (F : Nat → Nat) (fc : Nat) (nr : Nat → Nat) (nc : Nat → Nat) (sc : Nat → Nat) (ft : Nat) (rw : Nat → Nat) (lb : Nat → Nat) (ov : Nat → Int64), L + 1 - (1 + 5 * k) < n_ → 5 * k ≤ L + 4 → LI K n dn wn vn kn M C kd px pcs bt F fc nr nc rw lb → ∀ (H : Heap) (locs : List Loc) (ls : Array Slot), va_P D vwCl (hwW cI cJ cG (mwW cI cJ cG [(o_, .inl (cJ, 1, .inr (.inl ov)))] m_ md_ mw_ mv_ mk_ mr_ mo_ mf_ mb_ mx_ mp_ K n dn wn vn tk kn M wo le kd px F fc ft rw lb) h_ c_ d_ w_ v_ t_ rk_ ro_ rc_ al_ b_ ka_ na_ jo_ me_ wo_ fd_ nr_ nc_ sc_ ar ac K n dn wn vn tk kn M C al kd me px pcs bt wo le F fc nr nc sc) H → va_D A (hwW cI cJ cG (mwW cI cJ cG [(o_, .inl (cJ, 1, .inr (.inl ov)))] m_ md_ mw_ mv_ mk_ mr_ mo_ mf_ mb_ mx_ mp_ K n dn wn vn tk kn M wo le kd px F fc ft rw lb) h_ c_ d_ w_ v_ t_ rk_ ro_ rc_ al_ b_ ka_ na_ jo_ me_ wo_ fd_ nr_ nc_ sc_ ar ac K n dn wn vn tk kn M C al kd me px pcs bt wo le F fc nr nc sc) → va_S A s.heap H locs → lv_has ls 7 [(0, .ref b), (1, .ref h_), (2, .ref m_), (3, .ref o_), (4, .int (nI (1 + 5 * k)))] → W p l e room_1 s m #[Value.ref b] below meth c H locs (112 + k) (3240 + 6 * k) (lw_Z below #[Value.ref b] s) (F0 m 33 ls []) := by
  obtain ⟨hx, hb, hr, hml, hown, htl, hX, hbl, hlocks, hgv⟩ := id C0
  have hb : c.code = cL_law := hb
  have hown : s.vm.findClass RL = some m.cls := hown
  have hts : ∀ w ∈ wsL_law, w.before #[Value.ref b] s = true := fun w hw => htl w (wsL_law_in w hw)
  have hbA : ¬ A b := fun h => Nat.not_lt.mpr (hA2 b h) hbl
  intro n_
  induction n_ with
  | zero => intro k n dn wn vn tk kn M C al kd me px pcs bt wo le F fc nr nc sc ft rw lb ov hn; exact absurd hn (Nat.not_lt_zero _)
  | succ n_ ih =>
    intro k n dn wn vn tk kn M C al kd me px pcs bt wo le F fc nr nc sc ft rw lb ov hn hk hLI H locs ls hP hD hS hl
    refine lv_iload hx hb dL_law_33 (lv_at hl 4 rfl) ?_
    refine lv_aload_n hx hb dL_law_35 rfl (lv_at hl 0 rfl) ?_
    refine va_slen hx hb hX hbl hbA hS dL_law_36 ?_
    refine lv_iconst (v := 5) hx hb dL_law_37 (by decide) ?_
    refine lv_isub hx hb dL_law_38 ?_
    refine lv_icmp_gt (tgt := 853) hx hb dL_law_39 (by decide) (fun c39 => ?_) (fun c39 => ?_)
    · refine lv_iconst (v := 1) hx hb dL_law_853 (by decide) ?_
      refine va_forget (fun q hq => hA2 _ (hS.2.2 q hq)) ?_
      refine W.widen (k := 601024) (n := 7293000) (by omega) (by omega) ?_
      exact lw_ret hx hb hr hlocks dL_law_854
    · have hi : (1 + 5 * k) + 4 < L := by
        rw [show Int32.ofNat L - 5 = nI L - nI 5 from rfl, Int32.lt_iff_toInt_lt, pk_sub_toInt (by omega) (by omega), nI_toInt (by omega)] at c39
        omega
      refine lv_aload_n hx hb dL_law_42 rfl (lv_at hl 0 rfl) ?_
      refine lv_iload hx hb dL_law_43 (lv_at hl 4 rfl) ?_
      refine va_sld hx hb hX hbl hbA hS (vp_in_nI (by omega) (by omega)) dL_law_45 ?_
      refine lv_bipush (v := 31) hx hb dL_law_46 (by decide) ?_
      refine lv_iand hx hb dL_law_48 ?_
      refine lv_topi (fun v ev => ?_)
      have kb : ∀ (n : Nat) (dn : Nat → Nat) (wn : Nat → Nat) (vn : Nat → Nat) (tk : Int64) (kn : Nat → Nat) (M : Nat → Nat → Nat) (C : Nat → Nat → Nat) (al : Nat → Nat) (kd : Nat → Nat) (me : Nat → Nat) (px : Nat) (pcs : Nat) (bt : Bst) (wo : Nat → Int64) (le : Int64) (F : Nat → Nat) (fc : Nat) (nr : Nat → Nat) (nc : Nat → Nat) (sc : Nat → Nat) (ft : Nat) (rw : Nat → Nat) (lb : Nat → Nat) (ov : Nat → Int64), LI K n dn wn vn kn M C kd px pcs bt F fc nr nc rw lb → ∀ (H : Heap) (locs : List Loc) (ls : Array Slot), va_P D vwCl (mwW cI cJ cG (hwW cI cJ cG [(o_, .inl (cJ, 1, .inr (.inl ov)))] h_ c_ d_ w_ v_ t_ rk_ ro_ rc_ al_ b_ ka_ na_ jo_ me_ wo_ fd_ nr_ nc_ sc_ ar ac K n dn wn vn tk kn M C al kd me px pcs bt wo le F fc nr nc sc) m_ md_ mw_ mv_ mk_ mr_ mo_ mf_ mb_ mx_ mp_ K n dn wn vn tk kn M wo le kd px F fc ft rw lb) H → va_D A (mwW cI cJ cG (hwW cI cJ cG [(o_, .inl (cJ, 1, .inr (.inl ov)))] h_ c_ d_ w_ v_ t_ rk_ ro_ rc_ al_ b_ ka_ na_ jo_ me_ wo_ fd_ nr_ nc_ sc_ ar ac K n dn wn vn tk kn M C al kd me px pcs bt wo le F fc nr nc sc) m_ md_ mw_ mv_ mk_ mr_ mo_ mf_ mb_ mx_ mp_ K n dn wn vn tk kn M wo le kd px F fc ft rw lb) → va_S A s.heap H locs → lv_has ls 7 [(0, .ref b), (1, .ref h_), (2, .ref m_), (3, .ref o_), (4, .int (nI (1 + 5 * k)))] → W p l e room_1 s m #[Value.ref b] below meth c H locs (112 + k + 1) (3240 + 6 * k + 6) (lw_Z below #[Value.ref b] s) (F0 m 847 ls []) := by
        intro n dn wn vn tk kn M C al kd me px pcs bt wo le F fc nr nc sc ft rw lb ov hLI H locs ls hP hD hS hl
        have hP := mh_P hP
        have hD := mh_D hD
        obtain ⟨z, ez⟩ : ∃ z : Int32, z = nI (1 + 5 * k) + 5 := ⟨_, rfl⟩
        refine lv_iinc (v := z) (lv' := [(4, .int z), (0, .ref b), (1, .ref h_), (2, .ref m_), (3, .ref o_)]) hx hb dL_law_847 hl (k := 4) rfl (by rw [ez]; rfl) (by decide) rfl (fun ls hl => ?_)
        obtain rfl : z = nI (1 + 5 * (k + 1)) := by rw [ez]; exact (nI_add (1 + 5 * k) 5).trans (congrArg nI (by omega))
        refine lv_goto (tgt := 33) hx hb dL_law_850 (by decide) ?_
        refine W.widen (k := 112 + (k + 1)) (n := 3240 + 6 * (k + 1)) (by omega) (by omega) ?_
        exact ih (k + 1) n dn wn vn tk kn M C al kd me px pcs bt wo le F fc nr nc sc ft rw lb ov (by omega) (by omega) hLI H locs ls hP hD hS (lv_sub hl [1, 2, 3, 4, 0] rfl)
      rcases (show v.toInt = 0 ∨ v.toInt = 1 ∨ v.toInt = 2 ∨ v.toInt = 3 ∨ v.toInt = 4 ∨ v.toInt = 5 ∨ v.toInt = 6 ∨ v.toInt = 7 ∨ v.toInt = 8 ∨ v.toInt = 9 ∨ v.toInt = 10 ∨ v.toInt = 11 ∨ v.toInt = 12 ∨ v.toInt = 13 ∨ v.toInt = 14 ∨ v.toInt = 15 ∨ v.toInt = 16 ∨ v.toInt = 17 ∨ v.toInt = 18 ∨ (v.toInt < 0 ∨ 18 < v.toInt) by omega) with h | h | h | h | h | h | h | h | h | h | h | h | h | h | h | h | h | h | h | h
      · refine lv_tableIn (off := 91) (tgt := 140) hx hb dL_law_49 (by omega) (by omega) (by rw [h]; rfl) (by decide) ?_
        exact lc_white hx hb hml hown hts hX hbl hbA hA hK hi hL hLI ⟨by omega, by omega⟩ hP hD hS hl hfl htl hA2 hT kb
      · refine lv_tableIn (off := 166) (tgt := 215) hx hb dL_law_49 (by omega) (by omega) (by rw [h]; rfl) (by decide) ?_
        exact lc_dark hx hb hml hown hts hX hbl hbA hA hK hi hL hLI ⟨by omega, by omega⟩ hP hD hS hl kb
      · refine lv_tableIn (off := 203) (tgt := 252) hx hb dL_law_49 (by omega) (by omega) (by rw [h]; rfl) (by decide) ?_
        exact lc_value hx hb hml hown hts hX hbl hbA hA hK hi hL hLI ⟨by omega, by omega⟩ hP hD hS hl kb
      · refine lv_tableIn (off := 240) (tgt := 289) hx hb dL_law_49 (by omega) (by omega) (by rw [h]; rfl) (by decide) ?_
        exact lc_reference hx hb hml hown hts hX hbl hbA hA hK hi hL hLI ⟨by omega, by omega⟩ hP hD hS hl kb
      · refine lv_tableIn (off := 321) (tgt := 370) hx hb dL_law_49 (by omega) (by omega) (by rw [h]; rfl) (by decide) ?_
        exact lc_teach hx hb hml hown hts hX hbl hbA hA hK hi hL hLI ⟨by omega, by omega⟩ hP hD hS hl kb
      · refine lv_tableIn (off := 346) (tgt := 395) hx hb dL_law_49 (by omega) (by omega) (by rw [h]; rfl) (by decide) ?_
        exact lc_read hx hb hml hown hts hX hbl hbA hA hK hi hL hLI ⟨by omega, by omega⟩ hP hD hS hl kb
      · refine lv_tableIn (off := 359) (tgt := 408) hx hb dL_law_49 (by omega) (by omega) (by rw [h]; rfl) (by decide) ?_
        exact lc_sum hx hb hml hown hts hX hbl hbA hA hK hi hL hLI ⟨by omega, by omega⟩ hP hD hS hl kb
      · refine lv_tableIn (off := 385) (tgt := 434) hx hb dL_law_49 (by omega) (by omega) (by rw [h]; rfl) (by decide) ?_
        exact lc_bound hx hb hml hown hts hX hbl hbA hA hK hi hL hLI ⟨by omega, by omega⟩ hP hD hS hl kb
      · refine lv_tableIn (off := 442) (tgt := 491) hx hb dL_law_49 (by omega) (by omega) (by rw [h]; rfl) (by decide) ?_
        exact lc_worth hx hb hml hown hts hX hbl hbA hA hK hi hL hLI ⟨by omega, by omega⟩ hP hD hS hl kb
      · refine lv_tableIn (off := 511) (tgt := 560) hx hb dL_law_49 (by omega) (by omega) (by rw [h]; rfl) (by decide) ?_
        exact lc_leftOut hx hb hml hown hts hX hbl hbA hA hK hi hL hLI ⟨by omega, by omega⟩ hP hD hS hl kb
      · refine lv_tableIn (off := 536) (tgt := 585) hx hb dL_law_49 (by omega) (by omega) (by rw [h]; rfl) (by decide) ?_
        exact lc_wrong hx hb hml hown hts hX hbl hbA hA hK hi hL hLI ⟨by omega, by omega⟩ hP hD hS hl kb
      · refine lv_tableIn (off := 574) (tgt := 623) hx hb dL_law_49 (by omega) (by omega) (by rw [h]; rfl) (by decide) ?_
        exact lc_correct hx hb hml hown hts hX hbl hbA hA hK hi hL hLI ⟨by omega, by omega⟩ hP hD hS hl kb
      · refine lv_tableIn (off := 611) (tgt := 660) hx hb dL_law_49 (by omega) (by omega) (by rw [h]; rfl) (by decide) ?_
        exact lc_pixel hx hb hml hown hts hX hbl hbA hA hK hi hL hLI ⟨by omega, by omega⟩ hP hD hS hl kb
      · refine lv_tableIn (off := 648) (tgt := 697) hx hb dL_law_49 (by omega) (by omega) (by rw [h]; rfl) (by decide) ?_
        exact lc_piece hx hb hml hown hts hX hbl hbA hA hK hi hL hLI ⟨by omega, by omega⟩ hP hD hS hl kb
      · refine lv_tableIn (off := 685) (tgt := 734) hx hb dL_law_49 (by omega) (by omega) (by rw [h]; rfl) (by decide) ?_
        exact lc_pieceKind hx hb hml hown hts hX hbl hbA hA hK hi hL hLI ⟨by omega, by omega⟩ hP hD hS hl kb
      · refine lv_tableIn (off := 710) (tgt := 759) hx hb dL_law_49 (by omega) (by omega) (by rw [h]; rfl) (by decide) ?_
        exact lc_neighbours hx hb hml hown hts hX hbl hbA hA hK hi hL hLI ⟨by omega, by omega⟩ hP hD hS hl kb
      · refine lv_tableIn (off := 735) (tgt := 784) hx hb dL_law_49 (by omega) (by omega) (by rw [h]; rfl) (by decide) ?_
        exact lc_pack hx hb hml hown hts hX hbl hbA hA hK hi hL hLI ⟨by omega, by omega⟩ hP hD hS hl kb
      · refine lv_tableIn (off := 760) (tgt := 809) hx hb dL_law_49 (by omega) (by omega) (by rw [h]; rfl) (by decide) ?_
        exact lc_feed hx hb hml hown hts hX hbl hbA hA hK hi hL hLI ⟨by omega, by omega⟩ hP hD hS hl kb
      · refine lv_tableIn (off := 785) (tgt := 834) hx hb dL_law_49 (by omega) (by omega) (by rw [h]; rfl) (by decide) ?_
        exact lc_open hx hb hml hown hts hX hbl hbA hA hK hi hL hLI ⟨by omega, by omega⟩ hP hD hS hl kb
      · refine lv_tableOut (tgt := 847) hx hb dL_law_49 h (by decide) ?_
        refine W.widen (k := 112 + k + 1) (n := 3240 + 6 * k + 6) (by omega) (by omega) ?_
        exact kb n dn wn vn tk kn M C al kd me px pcs bt wo le F fc nr nc sc ft rw lb ov hLI H locs ls (hm_P hP) (hm_D hD) hS (lv_sub hl [0, 1, 2, 3, 4] rfl)
