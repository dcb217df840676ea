theorem gL_tbl_white : GoodIn lw_tbl wsL_whiteT := fun w hw => by
  rcases List.mem_append.mp hw with h | h
  · have h9 := gL_law_L_white w (List.mem_append_right _ h)
    exact ⟨wsL_law_in w h9.1, h9.2⟩
  · rcases List.mem_cons.mp h with rfl | h
    · exact ⟨by decide +kernel, Or.inl rfl⟩
    · have h8 : ∀ w ∈ thrG, w ∈ lw_tbl := by decide +kernel
      exact ⟨h8 w h, good_of_word (thrG_g w h)⟩
section GSW
variable {p : Program} {l : Launch} {e : Env} {R : Room} {s : State} {m : MethodId} {args : Array Value} {below : List Frame} {meth : Method} {c : Code} {H : Heap} {locs : List Loc} {cells slots : Nat} {Q : State → Prop}
variable {cc bytes : ByteArray} {pc nL maxL n index mc ms : Nat} {ls : Array Slot} {rest As st0 : List Value} {D : va_G} {A : Nat → Prop} {tys : List (ClassId × FieldType)} {ws ws' Ts : List Cond} {rm : Room} {y : MethodName} {H0 : Heap} {own C : String} {b : Nat} {wl : va_W} {ret : Option FieldType} {S : Type} {sx : Nat} {hh : List (Nat × Nat × Nat × Nat)}
theorem gc_SWi {post : Int32 → S → Prop} {wf : S → va_W} (F : CallFix p m c cc nL s args Ts own) (hM : Met l y ws rm (gPt D sx tys As wl H.size) (gQi D tys wl H.size post wf) mc ms (va_A wl H.size)) (hG : GoodIn Ts ws) (hw : ws = Cond.codeWith y bytes maxL ret hh :: ws') (hrc : rm.cells = mc) (hrs : rm.slots = ms) (hfr : rm.frames + 1 ≤ R.frames) (hlo : 8 + (maxL + 11) + rm.locals ≤ R.locals)
    (hlink : (Cond.methodLink own index y).before args s = true) (hstat : (Cond.static y).before args s = true) (hini : (Cond.initialized y.cls).before args s = true) (hd : y.cls ≠ "java/lang/invoke/MethodHandle" ∧ y.cls ≠ "java/lang/invoke/VarHandle" ∧ (parseMethodDescriptor y.desc).map (fun d => d.parameters.length) = some n)
    (hT : gThr sx s) (hO : ∀ q, q < s.heap.size → H[q]? = s.heap[q]?) (hK : va_K D vwCl tys s) (hP : va_P D vwCl wl H) (hD : va_D A wl) (hS : va_S A H0 H locs) (hA : ∀ q, H0.size ≤ q → A q) (hn : As.length = n) (hsize : ls.size = nL) (hst : st0 = As.reverse ++ rest) (hW : (rest.map fun v => v.category).sum ≤ 8) (hdg : decode cc pc = .ok (.invokestatic index, 3)) (hf : cells + mc ≤ R.cells ∧ slots + ms ≤ R.slots)
    (kk : ∀ (r : Int32) (u : S) (H1 : Heap) (locs1 : List Loc), post r u → va_P D vwCl (wf u) H1 → va_D A (wf u) → va_S A H0 H1 locs1 → W p l e R s m args below meth c H1 locs1 (cells + mc) (slots + ms) Q (F0 m (pc + 3) ls (.int r :: rest))) : W p l e R s m args below meth c H locs cells slots Q (F0 m pc ls st0) := by
  have hF := g_all hD hS hA
  obtain ⟨hx, hb, hml, ho, hts⟩ := F
  have hcw : Cond.codeWith y bytes maxL ret hh ∈ ws := by rw [hw]; exact List.mem_cons_self
  have hBk : Back l R p e below s args y 3 8 (PreOf R mc ms (gPt D sx tys As wl H.size)) (PostOf (gQi D tys wl H.size post wf) mc ms (va_A wl H.size)) := va_backW (hh := hh) (bytes := bytes) (maxL := maxL) (ret := ret) hM gPt_blind hrc hrs hfr hlo (pay_in hts hG) hcw (fun a' U hW => word_at hW (Or.inl (by first | rfl | simp [Cond.onTables, Cond.keeps, Cond.steady])) hini)
  have hrun : va_Run p l e R s m args below meth c H locs cells slots mc ms (F0 m pc ls st0) rest (gQi D tys wl H.size post wf As.toArray) (va_A wl H.size) := by
    intro T hTH X
    obtain ⟨mk, methM, cM, hnamed, hmethM, -, -, -, -, -, -, hsigM⟩ := Cond.codeWith_spec (hts _ (hG _ hcw).1)
    have hstatic : methM.isStatic = true := Cond.static_spec hnamed hmethM hstat
    obtain ⟨kP, hkP, -⟩ := className_of_methodNamed hnamed
    have hinitP : kP.init = .initialized := Cond.initialized_spec (findClass_of_methodNamed hnamed) hkP hini
    have hlen : As.length = methM.sig.parameters.length := by
      have h2 := hd.2.2
      rw [hsigM] at h2
      exact hn.trans (Option.some.inj h2).symm
    obtain ⟨vm₁, X₁, hstep₁⟩ := X.invokestatic hx ho hlink hnamed hmethM hstatic hkP hinitP ⟨hd.1, hd.2.1⟩ (g := F0 m pc ls st0) rfl (argsL := As) (rest := rest) hlen hst (by rw [hb]; exact hdg)
    obtain ⟨v, ⟨U', l2, c2, s2⟩, X', ⟨g', mk', t, L, e1, e2, hq, h1, hL, h2, h3⟩, hsteps⟩ := hBk m meth c ⟨T.setVm vm₁, locs, cells, slots⟩ (F0 m pc ls rest) (.invokestatic index) mk As.toArray X₁ rfl (hsize.trans hml.symm) (by rw [hb]; exact hdg) (lv_room hW) (X₁.named hnamed)
      ⟨hf.1, hf.2, rfl, by rw [show (T.setVm vm₁).heap = H from hTH], ⟨by rw [show (T.setVm vm₁).heap = H from hTH]; exact hP, va_K.moved X₁.warmed.alike hK, hD.weaken (fun _ _ _ _ => trivial)⟩, gThr.moved X₁.warmed (fun q hq => by rw [show (T.setVm vm₁).heap = H from hTH]; exact hO q hq) hT⟩
    dsimp only [Pt.U, Pt.locs, Pt.cells, Pt.slots] at X' e1 e2 h1 h2 h3 hsteps
    subst h1; subst h2; subst h3
    exact ⟨v, (T.setVm vm₁).calling g' mk' As.toArray, t, U', L, hTH, X', hL, e1, e2, hq, fun target h => hstep₁ _ fun acts => by rw [doInvoke_state]; exact hsteps.trans h⟩
  exact va_calli hrun hS (fun q _ h => hF q h) hF (fun r u t H1 locs1 ht hvm hw hB hz1 hk1 hS1 => kk r u H1 locs1 hw (by rw [← ht]; exact hB.1) (hB.2.2.weaken (fun _ q _ h => hF q.1 h)) hS1)
end GSW
section LAWX
variable {D : va_G} {cl : List vw_C} {A : Nat → Prop} {H : Heap} {cI cJ cG : ClassId} {x : Nat × va_E} {h_ c_ d_ w_ v_ t_ rk_ ro_ rc_ al_ b_ ka_ na_ jo_ me_ wo_ fd_ nr_ nc_ sc_ m_ md_ mw_ mv_ mk_ mr_ mo_ mf_ mb_ mx_ mp_ : Nat} {ar ac : Nat → Nat} {K : Nat} {n : Nat} {dn : Nat → Nat} {wn : Nat → Nat} {vn : Nat → Nat} {tk : Int64} {kn : Nat → Nat} {M : Nat → Nat → Nat} {C : Nat → Nat → Nat} {al : Nat → Nat} {kd : Nat → Nat} {me : Nat → Nat} {px : Nat} {pcs : Nat} {bt : Bst} {wo : Nat → Int64} {le : Int64} {F : Nat → Nat} {fc : Nat} {nr : Nat → Nat} {nc : Nat → Nat} {sc : Nat → Nat} {ft : Nat} {rw : Nat → Nat} {lb : Nat → Nat} {ov : Nat → Int64}
variable {K' : Nat} {n' : Nat} {dn' : Nat → Nat} {wn' : Nat → Nat} {vn' : Nat → Nat} {tk' : Int64} {kn' : Nat → Nat} {M' : Nat → Nat → Nat} {wo' : Nat → Int64} {le' : Int64} {kd' : Nat → Nat} {px' : Nat} {F' : Nat → Nat} {fc' : Nat} {ft' : Nat} {rw' : Nat → Nat} {lb' : Nat → Nat}
theorem ox2_P (h : va_P D cl (mwW cI cJ cG (hwW cI cJ cG [x] h_ c_ d_ w_ v_ t_ rk_ ro_ rc_ al_ b_ ka_ na_ jo_ me_ wo_ fd_ nr_ nc_ sc_ ar ac K n dn wn vn tk kn M C al kd me px pcs bt wo le F fc nr nc sc) m_ md_ mw_ mv_ mk_ mr_ mo_ mf_ mb_ mx_ mp_ K' n' dn' wn' vn' tk' kn' M' wo' le' kd' px' F' fc' ft' rw' lb') H) : va_P D cl (x :: ([(m_, .inr (5, [.int (nI K'), .ref md_, .ref mw_, .ref mv_, .long tk', .int (nI n'), .ref mk_, .ref mr_, .long le', .ref mo_, .int (nI px'), .ref mf_, .ref mb_, .int (nI fc'), .int (nI ft'), .ref mx_, .ref mp_])), (md_, .inl (cI, 8, .inl (nf dn'))), (mw_, .inl (cI, 8, .inl (nf wn'))), (mv_, .inl (cI, 8, .inl (nf vn'))), (mk_, .inl (cI, 40, .inl (nf kn'))), (mr_, .inl (cI, 320, .inl (nf (fM M')))), (mo_, .inl (cJ, 4, .inr (.inl wo'))), (mf_, .inl (cI, 256, .inl (nf kd'))), (mb_, .inl (cI, 400, .inl (nf F'))), (mx_, .inl (cI, 8, .inl (nf rw'))), (mp_, .inl (cI, 256, .inl (l1 lb')))] ++ ([(h_, .inr (4, [.int (nI K), .ref c_, .ref t_, .ref b_, .ref wo_, .long le, .ref fd_, .int (nI fc), .ref nr_, .ref nc_, .ref sc_])), (c_, .inr (2, [.ref d_, .ref w_, .ref v_, .long tk])), (d_, .inl (cI, 8, .inl (nf dn))), (w_, .inl (cI, 8, .inl (nf wn))), (v_, .inl (cI, 8, .inl (nf vn))), (t_, .inr (3, [.int (nI K), .ref rk_, .ref ro_, .ref rc_, .ref al_, .int (nI n)])), (rk_, .inl (cI, 40, .inl (nf kn))), (ro_, .inl (cG, 40, .inr (.inr (.inr (.inr (og ar)))))), (rc_, .inl (cG, 40, .inr (.inr (.inr (.inr (og ac)))))), (al_, .inl (cI, 7, .inl (nf al))), (b_, .inr (1, [.ref ka_, .ref na_, .ref jo_, .ref me_, .int (nI bt.2.2), .int (nI px), .int (nI pcs)])), (ka_, .inl (cI, 256, .inl (k2 kd))), (na_, .inl (cI, 256, .inl (l1 bt.1))), (jo_, .inl (cI, 100, .inl (nf bt.2.1))), (me_, .inl (cI, 100, .inl (nf me))), (wo_, .inl (cJ, K, .inr (.inl wo))), (fd_, .inl (cI, 400, .inl (nf F))), (nr_, .inl (cI, 8, .inl (nf nr))), (nc_, .inl (cI, 7, .inl (nf nc))), (sc_, .inl (cJ, K, .inr (.inl (lf sc))))] ++ (pr cI ar M ++ pq cI ac C)))) H := by
  have h1 : va_P D cl (([(m_, .inr (5, [.int (nI K'), .ref md_, .ref mw_, .ref mv_, .long tk', .int (nI n'), .ref mk_, .ref mr_, .long le', .ref mo_, .int (nI px'), .ref mf_, .ref mb_, .int (nI fc'), .int (nI ft'), .ref mx_, .ref mp_])), (md_, .inl (cI, 8, .inl (nf dn'))), (mw_, .inl (cI, 8, .inl (nf wn'))), (mv_, .inl (cI, 8, .inl (nf vn'))), (mk_, .inl (cI, 40, .inl (nf kn'))), (mr_, .inl (cI, 320, .inl (nf (fM M')))), (mo_, .inl (cJ, 4, .inr (.inl wo'))), (mf_, .inl (cI, 256, .inl (nf kd'))), (mb_, .inl (cI, 400, .inl (nf F'))), (mx_, .inl (cI, 8, .inl (nf rw'))), (mp_, .inl (cI, 256, .inl (l1 lb')))] ++ ([(h_, .inr (4, [.int (nI K), .ref c_, .ref t_, .ref b_, .ref wo_, .long le, .ref fd_, .int (nI fc), .ref nr_, .ref nc_, .ref sc_])), (c_, .inr (2, [.ref d_, .ref w_, .ref v_, .long tk])), (d_, .inl (cI, 8, .inl (nf dn))), (w_, .inl (cI, 8, .inl (nf wn))), (v_, .inl (cI, 8, .inl (nf vn))), (t_, .inr (3, [.int (nI K), .ref rk_, .ref ro_, .ref rc_, .ref al_, .int (nI n)])), (rk_, .inl (cI, 40, .inl (nf kn))), (ro_, .inl (cG, 40, .inr (.inr (.inr (.inr (og ar)))))), (rc_, .inl (cG, 40, .inr (.inr (.inr (.inr (og ac)))))), (al_, .inl (cI, 7, .inl (nf al))), (b_, .inr (1, [.ref ka_, .ref na_, .ref jo_, .ref me_, .int (nI bt.2.2), .int (nI px), .int (nI pcs)])), (ka_, .inl (cI, 256, .inl (k2 kd))), (na_, .inl (cI, 256, .inl (l1 bt.1))), (jo_, .inl (cI, 100, .inl (nf bt.2.1))), (me_, .inl (cI, 100, .inl (nf me))), (wo_, .inl (cJ, K, .inr (.inl wo))), (fd_, .inl (cI, 400, .inl (nf F))), (nr_, .inl (cI, 8, .inl (nf nr))), (nc_, .inl (cI, 7, .inl (nf nc))), (sc_, .inl (cJ, K, .inr (.inl (lf sc))))] ++ (pr cI ar M ++ pq cI ac C))) ++ [x]) H := by
    rw [show ([(m_, .inr (5, [.int (nI K'), .ref md_, .ref mw_, .ref mv_, .long tk', .int (nI n'), .ref mk_, .ref mr_, .long le', .ref mo_, .int (nI px'), .ref mf_, .ref mb_, .int (nI fc'), .int (nI ft'), .ref mx_, .ref mp_])), (md_, .inl (cI, 8, .inl (nf dn'))), (mw_, .inl (cI, 8, .inl (nf wn'))), (mv_, .inl (cI, 8, .inl (nf vn'))), (mk_, .inl (cI, 40, .inl (nf kn'))), (mr_, .inl (cI, 320, .inl (nf (fM M')))), (mo_, .inl (cJ, 4, .inr (.inl wo'))), (mf_, .inl (cI, 256, .inl (nf kd'))), (mb_, .inl (cI, 400, .inl (nf F'))), (mx_, .inl (cI, 8, .inl (nf rw'))), (mp_, .inl (cI, 256, .inl (l1 lb')))] ++ ([(h_, .inr (4, [.int (nI K), .ref c_, .ref t_, .ref b_, .ref wo_, .long le, .ref fd_, .int (nI fc), .ref nr_, .ref nc_, .ref sc_])), (c_, .inr (2, [.ref d_, .ref w_, .ref v_, .long tk])), (d_, .inl (cI, 8, .inl (nf dn))), (w_, .inl (cI, 8, .inl (nf wn))), (v_, .inl (cI, 8, .inl (nf vn))), (t_, .inr (3, [.int (nI K), .ref rk_, .ref ro_, .ref rc_, .ref al_, .int (nI n)])), (rk_, .inl (cI, 40, .inl (nf kn))), (ro_, .inl (cG, 40, .inr (.inr (.inr (.inr (og ar)))))), (rc_, .inl (cG, 40, .inr (.inr (.inr (.inr (og ac)))))), (al_, .inl (cI, 7, .inl (nf al))), (b_, .inr (1, [.ref ka_, .ref na_, .ref jo_, .ref me_, .int (nI bt.2.2), .int (nI px), .int (nI pcs)])), (ka_, .inl (cI, 256, .inl (k2 kd))), (na_, .inl (cI, 256, .inl (l1 bt.1))), (jo_, .inl (cI, 100, .inl (nf bt.2.1))), (me_, .inl (cI, 100, .inl (nf me))), (wo_, .inl (cJ, K, .inr (.inl wo))), (fd_, .inl (cI, 400, .inl (nf F))), (nr_, .inl (cI, 8, .inl (nf nr))), (nc_, .inl (cI, 7, .inl (nf nc))), (sc_, .inl (cJ, K, .inr (.inl (lf sc))))] ++ (pr cI ar M ++ pq cI ac C))) ++ [x] = (mwW cI cJ cG (hwW cI cJ cG [x] h_ c_ d_ w_ v_ t_ rk_ ro_ rc_ al_ b_ ka_ na_ jo_ me_ wo_ fd_ nr_ nc_ sc_ ar ac K n dn wn vn tk kn M C al kd me px pcs bt wo le F fc nr nc sc) m_ md_ mw_ mv_ mk_ mr_ mo_ mf_ mb_ mx_ mp_ K' n' dn' wn' vn' tk' kn' M' wo' le' kd' px' F' fc' ft' rw' lb') from by simp only [List.append_assoc, List.cons_append, List.nil_append]]
    exact h
  exact g_frP h1
end LAWX
section LAWW
variable {p : Program} {l : Launch} {e : Env} {s : State} {m : MethodId} {below : List Frame} {meth : Method} {c : Code} {H : Heap} {locs : List Loc} {cells slots : Nat} {Q : State → Prop} {ls : Array Slot} {D : va_G} {A : Nat → Prop} {cI cJ cG : ClassId} {b L i : Nat} {xs : Nat → Int32} {h_ c_ d_ w_ v_ t_ rk_ ro_ rc_ al_ b_ ka_ na_ jo_ me_ wo_ fd_ nr_ nc_ sc_ o_ m_ md_ mw_ mv_ mk_ mr_ mo_ mf_ mb_ mx_ mp_ : Nat} {ar ac : Nat → Nat} {K : Nat} {n : Nat} {dn : Nat → Nat} {wn : Nat → Nat} {vn : Nat → Nat} {tk : Int64} {kn : Nat → Nat} {M : Nat → Nat → Nat} {C : Nat → Nat → Nat} {al : Nat → Nat} {kd : Nat → Nat} {me : Nat → Nat} {px : Nat} {pcs : Nat} {bt : Bst} {wo : Nat → Int64} {le : Int64} {F : Nat → Nat} {fc : Nat} {nr : Nat → Nat} {nc : Nat → Nat} {sc : Nat → Nat} {ft : Nat} {rw : Nat → Nat} {lb : Nat → Nat} {ov : Nat → Int64}
set_option maxHeartbeats 4000000 in
set_option maxRecDepth 100000 in
theorem lc_white (hx : p.tables.exec = Jvm.exec) (hb : c.code = cL_law) (hml : c.maxLocals = 7) (hown : s.vm.findClass RL = some m.cls) (hts : ∀ w ∈ wsL_law, w.before #[Value.ref b] s = true) (hX : va_X b L xs s s.heap) (hbl : b < s.heap.size) (hbA : ¬ A b) (hA : ∀ q, s.heap.size ≤ q → A q) (hK : va_K D vwCl (tyl cI cJ cG) s) (hi : i + 4 < L) (hL : L ≤ 2561) (hLI : LI K n dn wn vn kn M C kd px pcs bt F fc nr nc rw lb) (hcs : cells + 1 ≤ 601024 ∧ slots + 6 ≤ 7293000) (hP : va_P D vwCl (hwW cI cJ cG (mwW cI cJ cG [(o_, .inl (cJ, 1, .inr (.inl ov)))] m_ md_ mw_ mv_ mk_ mr_ mo_ mf_ mb_ mx_ mp_ K n dn wn vn tk kn M wo le kd px F fc ft rw lb) h_ c_ d_ w_ v_ t_ rk_ ro_ rc_ al_ b_ ka_ na_ jo_ me_ wo_ fd_ nr_ nc_ sc_ ar ac K n dn wn vn tk kn M C al kd me px pcs bt wo le F fc nr nc sc) H) (hD : va_D A (hwW cI cJ cG (mwW cI cJ cG [(o_, .inl (cJ, 1, .inr (.inl ov)))] m_ md_ mw_ mv_ mk_ mr_ mo_ mf_ mb_ mx_ mp_ K n dn wn vn tk kn M wo le kd px F fc ft rw lb) h_ c_ d_ w_ v_ t_ rk_ ro_ rc_ al_ b_ ka_ na_ jo_ me_ wo_ fd_ nr_ nc_ sc_ ar ac K n dn wn vn tk kn M C al kd me px pcs bt wo le F fc nr nc sc)) (hS : va_S A s.heap H locs) (hl : lv_has ls 7 [(0, .ref b), (1, .ref h_), (2, .ref m_), (3, .ref o_), (4, .int (nI i))]) (hfl : l.flags = pinnedFlags ++ [noTraceFlag]) (htl : ∀ w ∈ lw_tbl, w.before #[Value.ref b] s = true) (hA2 : ∀ q, A q → s.heap.size ≤ q) {sx : Nat} (hT : gThr sx s) (kb : ∀ (n : Nat) (dn : Nat → Nat) (wn : Nat → Nat) (vn : Nat → Nat) (tk : Int64) (kn : Nat → Nat) (M : Nat → Nat → Nat) (C : Nat → Nat → Nat) (al : Nat → Nat) (kd : Nat → Nat) (me : Nat → Nat) (px : Nat) (pcs : Nat) (bt : Bst) (wo : Nat → Int64) (le : Int64) (F : Nat → Nat) (fc : Nat) (nr : Nat → Nat) (nc : Nat → Nat) (sc : Nat → Nat) (ft : Nat) (rw : Nat → Nat) (lb : Nat → Nat) (ov : Nat → Int64), LI K n dn wn vn kn M C kd px pcs bt F fc nr nc rw lb → ∀ (H : Heap) (locs : List Loc) (ls : Array Slot), va_P D vwCl (mwW cI cJ cG (hwW cI cJ cG [(o_, .inl (cJ, 1, .inr (.inl ov)))] h_ c_ d_ w_ v_ t_ rk_ ro_ rc_ al_ b_ ka_ na_ jo_ me_ wo_ fd_ nr_ nc_ sc_ ar ac K n dn wn vn tk kn M C al kd me px pcs bt wo le F fc nr nc sc) m_ md_ mw_ mv_ mk_ mr_ mo_ mf_ mb_ mx_ mp_ K n dn wn vn tk kn M wo le kd px F fc ft rw lb) H → va_D A (mwW cI cJ cG (hwW cI cJ cG [(o_, .inl (cJ, 1, .inr (.inl ov)))] h_ c_ d_ w_ v_ t_ rk_ ro_ rc_ al_ b_ ka_ na_ jo_ me_ wo_ fd_ nr_ nc_ sc_ ar ac K n dn wn vn tk kn M C al kd me px pcs bt wo le F fc nr nc sc) m_ md_ mw_ mv_ mk_ mr_ mo_ mf_ mb_ mx_ mp_ K n dn wn vn tk kn M wo le kd px F fc ft rw lb) → va_S A s.heap H locs → lv_has ls 7 [(0, .ref b), (1, .ref h_), (2, .ref m_), (3, .ref o_), (4, .int (nI i))] → W p l e room_1 s m #[Value.ref b] below meth c H locs (cells + 1) (slots + 6) Q (F0 m 847 ls [])) : W p l e room_1 s m #[Value.ref b] below meth c H locs cells slots Q (F0 m 140 ls []) := by
  refine lv_aload_n hx hb dL_law_140 rfl (lv_at hl 1 rfl) ?_
  refine lv_aload_n hx hb dL_law_141 rfl (lv_at hl 0 rfl) ?_
  refine lv_iload hx hb dL_law_142 (lv_at hl 4 rfl) ?_
  refine lv_iconst (v := 1) hx hb dL_law_144 (by decide) ?_
  refine lv_iadd hx hb dL_law_145 ?_
  refine lv_topi (fun x145 ex145 => ?_)
  obtain rfl : x145 = nI (i + 1) := by rw [ex145]; exact nI_add i 1
  refine va_sld hx hb hX hbl hbA hS (vp_in_nI (by omega) (by omega)) dL_law_146 ?_
  refine lv_topi (fun x146 ex146 => ?_)
  obtain rfl : x146 = xs (i + 1) := by rw [ex146, nI_clamp (by omega)]
  refine lv_aload_n hx hb dL_law_147 rfl (lv_at hl 0 rfl) ?_
  refine lv_iload hx hb dL_law_148 (lv_at hl 4 rfl) ?_
  refine lv_iconst (v := 2) hx hb dL_law_150 (by decide) ?_
  refine lv_iadd hx hb dL_law_151 ?_
  refine lv_topi (fun x151 ex151 => ?_)
  obtain rfl : x151 = nI (i + 2) := by rw [ex151]; exact nI_add i 2
  refine va_sld hx hb hX hbl hbA hS (vp_in_nI (by omega) (by omega)) dL_law_152 ?_
  refine lv_topi (fun x152 ex152 => ?_)
  obtain rfl : x152 = xs (i + 2) := by rw [ex152, nI_clamp (by omega)]
  refine lv_aload_n hx hb dL_law_153 rfl (lv_at hl 3 rfl) ?_
  have hP := ox_P hP
  have hD := ox_D hD
  have hO : ∀ q, q < s.heap.size → H[q]? = s.heap[q]? := fun q hq => hS.2.1 q hq (fun h => Nat.not_lt.mpr (hA2 q h) hq)
  refine gc_SWi (n := 4) (As := [.ref h_, .int (xs (i + 1)), .int (xs (i + 2)), .ref o_]) (rest := []) (hh := [(0, 17, 20, 13)]) ⟨hx, hb, hml, hown, htl⟩ (c_L_white l hfl D cI cJ cG H.size (mwW cI cJ cG [] m_ md_ mw_ mv_ mk_ mr_ mo_ mf_ mb_ mx_ mp_ K n dn wn vn tk kn M wo le kd px F fc ft rw lb) h_ c_ d_ w_ v_ t_ rk_ ro_ rc_ al_ b_ ka_ na_ jo_ me_ wo_ fd_ nr_ nc_ sc_ ar ac K n dn wn vn tk kn M C al kd me px pcs bt wo le F fc nr nc sc o_ sx ov (xs (i + 1)) (xs (i + 2)) hLI.h) gL_tbl_white rfl rfl rfl (Nat.le_of_ble_eq_true rfl) (Nat.le_of_ble_eq_true rfl) (hts (.methodLink RL 27 yL_white) (by decide +kernel)) (hts (.static yL_white) (by decide +kernel)) (htl (.initialized RL) (by decide +kernel)) (by decide +kernel) hT hO hK hP hD hS hA rfl hl.1 rfl (Nat.le_of_ble_eq_true rfl) dL_law_154 ⟨hcs.1, hcs.2⟩ (fun r0 u0 H locs h0 hP hD hS => ?_)
  obtain ⟨wn0, ov0⟩ := u0
  obtain ⟨g0, e0, e0o⟩ := h0
  have k0 : wn0 = setN (xs (i + 1)) (xs (i + 2)) wn := e0
  have k0o : inB (xs (i + 1)) 8 = true → ov0 0 = if inB (xs (i + 2)) 256 = true then 1 else 0 := e0o
  subst k0
  have hP : va_P D vwCl ((o_, .inl (cJ, 1, .inr (.inl ov0))) :: (hwW cI cJ cG (mwW cI cJ cG [] m_ md_ mw_ mv_ mk_ mr_ mo_ mf_ mb_ mx_ mp_ K n dn wn vn tk kn M wo le kd px F fc ft rw lb) h_ c_ d_ w_ v_ t_ rk_ ro_ rc_ al_ b_ ka_ na_ jo_ me_ wo_ fd_ nr_ nc_ sc_ ar ac K n dn (setN (xs (i + 1)) (xs (i + 2)) wn) vn tk kn M C al kd me px pcs bt wo le F fc nr nc sc)) H := hP
  have hD : va_D A ((o_, .inl (cJ, 1, .inr (.inl ov0))) :: (hwW cI cJ cG (mwW cI cJ cG [] m_ md_ mw_ mv_ mk_ mr_ mo_ mf_ mb_ mx_ mp_ K n dn wn vn tk kn M wo le kd px F fc ft rw lb) h_ c_ d_ w_ v_ t_ rk_ ro_ rc_ al_ b_ ka_ na_ jo_ me_ wo_ fd_ nr_ nc_ sc_ ar ac K n dn (setN (xs (i + 1)) (xs (i + 2)) wn) vn tk kn M C al kd me px pcs bt wo le F fc nr nc sc)) := hD
  have hP := xo_P hP
  have hD := xo_D hD
  have hP : va_P D vwCl (hwW cI cJ cG (mwW cI cJ cG [(o_, .inl (cJ, 1, .inr (.inl ov0)))] m_ md_ mw_ mv_ mk_ mr_ mo_ mf_ mb_ mx_ mp_ K n dn wn vn tk kn M wo le kd px F fc ft rw lb) h_ c_ d_ w_ v_ t_ rk_ ro_ rc_ al_ b_ ka_ na_ jo_ me_ wo_ fd_ nr_ nc_ sc_ ar ac K n dn (setN (xs (i + 1)) (xs (i + 2)) wn) vn tk kn M C al kd me px pcs bt wo le F fc nr nc sc) H := hP
  have hD : va_D A (hwW cI cJ cG (mwW cI cJ cG [(o_, .inl (cJ, 1, .inr (.inl ov0)))] m_ md_ mw_ mv_ mk_ mr_ mo_ mf_ mb_ mx_ mp_ K n dn wn vn tk kn M wo le kd px F fc ft rw lb) h_ c_ d_ w_ v_ t_ rk_ ro_ rc_ al_ b_ ka_ na_ jo_ me_ wo_ fd_ nr_ nc_ sc_ ar ac K n dn (setN (xs (i + 1)) (xs (i + 2)) wn) vn tk kn M C al kd me px pcs bt wo le F fc nr nc sc) := hD
  have hc0 : cells + 1 + 0 ≤ room_1.cells := by show cells + 1 + 0 ≤ 601024; omega
  have hs0 : slots + 6 + 0 ≤ room_1.slots := by show slots + 6 + 0 ≤ 7293000; omega
  refine lv_istore (lv' := [(5, .int r0), (0, .ref b), (1, .ref h_), (2, .ref m_), (3, .ref o_), (4, .int (nI i))]) hx hb dL_law_157 hl (by decide) rfl (fun ls hl => ?_)
  refine lv_aload_n hx hb dL_law_159 rfl (lv_at hl 3 rfl) ?_
  refine lv_aload_n hx hb dL_law_160 rfl (lv_at hl 1 rfl) ?_
  refine lv_iload hx hb dL_law_161 (lv_at hl 5 rfl) ?_
  refine lv_iconst (v := 1) hx hb dL_law_163 (by decide) ?_
  refine lv_iadd hx hb dL_law_164 ?_
  refine lv_topi (fun x164 ex164 => ?_)
  obtain rfl : x164 = nI (i + 1) := by rw [ex164]; exact nI_add i 1
  refine va_sld hx hb hX hbl hbA hS (vp_in_nI (by omega) (by omega)) dL_law_165 ?_
  refine lv_topi (fun x165 ex165 => ?_)
  obtain rfl : x165 = xs (i + 1) := by rw [ex165, nI_clamp (by omega)]
  refine lv_aload_n hx hb dL_law_166 rfl (lv_at hl 1 rfl) ?_
  refine lv_iload hx hb dL_law_167 (lv_at hl 5 rfl) ?_
  refine lv_iconst (v := 2) hx hb dL_law_169 (by decide) ?_
  refine lv_iadd hx hb dL_law_170 ?_
  refine lv_topi (fun x170 ex170 => ?_)
  obtain rfl : x170 = nI (i + 2) := by rw [ex170]; exact nI_add i 2
  refine va_sld hx hb hX hbl hbA hS (vp_in_nI (by omega) (by omega)) dL_law_171 ?_
  refine lv_topi (fun x171 ex171 => ?_)
  obtain rfl : x171 = xs (i + 2) := by rw [ex171, nI_clamp (by omega)]
  have hP := hm_P hP
  have hD := hm_D hD
  have hP : va_P D vwCl (mwW cI cJ cG (hwW cI cJ cG [(o_, .inl (cJ, 1, .inr (.inl ov0)))] h_ c_ d_ w_ v_ t_ rk_ ro_ rc_ al_ b_ ka_ na_ jo_ me_ wo_ fd_ nr_ nc_ sc_ ar ac K n dn (setN (xs (i + 1)) (xs (i + 2)) wn) vn tk kn M C al kd me px pcs bt wo le F fc nr nc sc) m_ md_ mw_ mv_ mk_ mr_ mo_ mf_ mb_ mx_ mp_ K n dn wn vn tk kn M wo le kd px F fc ft rw lb) H := hP
  have hD : va_D A (mwW cI cJ cG (hwW cI cJ cG [(o_, .inl (cJ, 1, .inr (.inl ov0)))] h_ c_ d_ w_ v_ t_ rk_ ro_ rc_ al_ b_ ka_ na_ jo_ me_ wo_ fd_ nr_ nc_ sc_ ar ac K n dn (setN (xs (i + 1)) (xs (i + 2)) wn) vn tk kn M C al kd me px pcs bt wo le F fc nr nc sc) m_ md_ mw_ mv_ mk_ mr_ mo_ mf_ mb_ mx_ mp_ K n dn wn vn tk kn M wo le kd px F fc ft rw lb) := hD
  refine gc_Vi (As := [.int (xs (i + 1)), .int (xs (i + 2))]) (rest := []) (ci := 5) (q0 := 0) ⟨hx, hb, hml, hown, hts⟩ (c_X4_white l D cI cJ cG H.size (hwW cI cJ cG [(o_, .inl (cJ, 1, .inr (.inl ov0)))] h_ c_ d_ w_ v_ t_ rk_ ro_ rc_ al_ b_ ka_ na_ jo_ me_ wo_ fd_ nr_ nc_ sc_ ar ac K n dn (setN (xs (i + 1)) (xs (i + 2)) wn) vn tk kn M C al kd me px pcs bt wo le F fc nr nc sc) m_ md_ mw_ mv_ mk_ mr_ mo_ mf_ mb_ mx_ mp_ K n dn wn vn tk kn M wo le kd px F fc ft rw lb (xs (i + 1)) (xs (i + 2)) hLI.m) (cwV 2 hts gL_law_X4_white rfl rfl rfl (by decide +kernel) ⟨Nat.le_of_ble_eq_true rfl, Nat.le_of_ble_eq_true rfl⟩) rfl rfl rfl hK hP hD hS hA rfl hl.1 rfl (Nat.le_of_ble_eq_true rfl) dL_law_172 ⟨hc0, hs0⟩ (fun r1 u1 H locs h1 hP hD hS => ?_)
  obtain ⟨wn1, ft1⟩ := u1
  obtain ⟨g1, e1, e1f⟩ := h1
  have k1f : ft1 = if inB (xs (i + 1)) 8 = true then 0 else 1 := e1f
  have k1 : wn1 = setN (xs (i + 1)) (xs (i + 2)) wn := e1
  subst k1
  have hP : va_P D vwCl (mwW cI cJ cG (hwW cI cJ cG [(o_, .inl (cJ, 1, .inr (.inl ov0)))] h_ c_ d_ w_ v_ t_ rk_ ro_ rc_ al_ b_ ka_ na_ jo_ me_ wo_ fd_ nr_ nc_ sc_ ar ac K n dn (setN (xs (i + 1)) (xs (i + 2)) wn) vn tk kn M C al kd me px pcs bt wo le F fc nr nc sc) m_ md_ mw_ mv_ mk_ mr_ mo_ mf_ mb_ mx_ mp_ K n dn (setN (xs (i + 1)) (xs (i + 2)) wn) vn tk kn M wo le kd px F fc ft1 rw lb) H := hP
  have hD : va_D A (mwW cI cJ cG (hwW cI cJ cG [(o_, .inl (cJ, 1, .inr (.inl ov0)))] h_ c_ d_ w_ v_ t_ rk_ ro_ rc_ al_ b_ ka_ na_ jo_ me_ wo_ fd_ nr_ nc_ sc_ ar ac K n dn (setN (xs (i + 1)) (xs (i + 2)) wn) vn tk kn M C al kd me px pcs bt wo le F fc nr nc sc) m_ md_ mw_ mv_ mk_ mr_ mo_ mf_ mb_ mx_ mp_ K n dn (setN (xs (i + 1)) (xs (i + 2)) wn) vn tk kn M wo le kd px F fc ft1 rw lb) := hD
  refine lv_istore (lv' := [(6, .int r1), (5, .int r0), (0, .ref b), (1, .ref h_), (2, .ref m_), (3, .ref o_), (4, .int (nI i))]) hx hb dL_law_175 hl (by decide) rfl (fun ls hl => ?_)
  refine lv_aload_n hx hb dL_law_177 rfl (lv_at hl 4 rfl) ?_
  have hP : va_P D vwCl (mwW cI cJ cG (hwW cI cJ cG [(o_, .inl (cJ, 1, .inr (.inl ov0)))] h_ c_ d_ w_ v_ t_ rk_ ro_ rc_ al_ b_ ka_ na_ jo_ me_ wo_ fd_ nr_ nc_ sc_ ar ac K n dn (setN (xs (i + 1)) (xs (i + 2)) wn) vn tk kn M C al kd me px pcs bt wo le F fc nr nc sc) m_ md_ mw_ mv_ mk_ mr_ mo_ mf_ mb_ mx_ mp_ K n dn (setN (xs (i + 1)) (xs (i + 2)) wn) vn tk kn M wo le kd px F fc ft1 rw lb) H := hP
  have hD : va_D A (mwW cI cJ cG (hwW cI cJ cG [(o_, .inl (cJ, 1, .inr (.inl ov0)))] h_ c_ d_ w_ v_ t_ rk_ ro_ rc_ al_ b_ ka_ na_ jo_ me_ wo_ fd_ nr_ nc_ sc_ ar ac K n dn (setN (xs (i + 1)) (xs (i + 2)) wn) vn tk kn M C al kd me px pcs bt wo le F fc nr nc sc) m_ md_ mw_ mv_ mk_ mr_ mo_ mf_ mb_ mx_ mp_ K n dn (setN (xs (i + 1)) (xs (i + 2)) wn) vn tk kn M wo le kd px F fc ft1 rw lb) := hD
  refine gc_Vi (As := []) (rest := []) (ci := 5) (q0 := 0) ⟨hx, hb, hml, hown, hts⟩ (c_X4_thrown l D cI cJ cG H.size (hwW cI cJ cG [(o_, .inl (cJ, 1, .inr (.inl ov0)))] h_ c_ d_ w_ v_ t_ rk_ ro_ rc_ al_ b_ ka_ na_ jo_ me_ wo_ fd_ nr_ nc_ sc_ ar ac K n dn (setN (xs (i + 1)) (xs (i + 2)) wn) vn tk kn M C al kd me px pcs bt wo le F fc nr nc sc) m_ md_ mw_ mv_ mk_ mr_ mo_ mf_ mb_ mx_ mp_ K n dn (setN (xs (i + 1)) (xs (i + 2)) wn) vn tk kn M wo le kd px F fc ft1 rw lb ) (cwV 0 hts gL_law_X4_thrown rfl rfl rfl (by decide +kernel) ⟨Nat.le_of_ble_eq_true rfl, Nat.le_of_ble_eq_true rfl⟩) rfl rfl rfl hK hP hD hS hA rfl hl.1 rfl (Nat.le_of_ble_eq_true rfl) dL_law_178 ⟨hc0, hs0⟩ (fun r2 u2 H locs h2 hP hD hS => ?_)
  have hP : va_P D vwCl (mwW cI cJ cG (hwW cI cJ cG [(o_, .inl (cJ, 1, .inr (.inl ov0)))] h_ c_ d_ w_ v_ t_ rk_ ro_ rc_ al_ b_ ka_ na_ jo_ me_ wo_ fd_ nr_ nc_ sc_ ar ac K n dn (setN (xs (i + 1)) (xs (i + 2)) wn) vn tk kn M C al kd me px pcs bt wo le F fc nr nc sc) m_ md_ mw_ mv_ mk_ mr_ mo_ mf_ mb_ mx_ mp_ K n dn (setN (xs (i + 1)) (xs (i + 2)) wn) vn tk kn M wo le kd px F fc ft1 rw lb) H := hP
  have hD : va_D A (mwW cI cJ cG (hwW cI cJ cG [(o_, .inl (cJ, 1, .inr (.inl ov0)))] h_ c_ d_ w_ v_ t_ rk_ ro_ rc_ al_ b_ ka_ na_ jo_ me_ wo_ fd_ nr_ nc_ sc_ ar ac K n dn (setN (xs (i + 1)) (xs (i + 2)) wn) vn tk kn M C al kd me px pcs bt wo le F fc nr nc sc) m_ md_ mw_ mv_ mk_ mr_ mo_ mf_ mb_ mx_ mp_ K n dn (setN (xs (i + 1)) (xs (i + 2)) wn) vn tk kn M wo le kd px F fc ft1 rw lb) := hD
  refine lv_iload hx hb dL_law_181 (lv_at hl 1 rfl) ?_
  refine lv_icmp_eq (tgt := 188) hx hb dL_law_183 (by decide) (fun c9 => ?_) (fun c9 => absurd (by rw [h2, g0, k1f]; cases inB (xs (i + 1)) 8 <;> rfl) c9)
  refine lv_iload hx hb dL_law_188 (lv_at hl 1 rfl) ?_
  refine lv_if_ne (tgt := 212) hx hb dL_law_190 (by decide) (fun c8 => ?_) (fun c8 => ?_)
  · refine lv_goto (tgt := 847) hx hb dL_law_212 (by decide) ?_
    exact kb n dn (setN (xs (i + 1)) (xs (i + 2)) wn) vn tk kn M C al kd me px pcs bt wo le F fc nr nc sc ft1 rw lb ov0 (hLI.wn1 (setN_le hLI.h.2.2.1.2.1)) H locs ls hP hD hS (lv_sub hl [2, 3, 4, 5, 6] rfl)
  · have h8 : inB (xs (i + 1)) 8 = true := by
      cases h7 : inB (xs (i + 1)) 8 with
      | true => rfl
      | false =>
        rw [g0, h7] at c8
        exact absurd c8 (by decide)
    rw [h8, Bool.true_and] at g1
    have hov := k0o h8
    have hPo := ox2_P hP
    refine lv_aload_n hx hb dL_law_193 rfl (lv_at hl 5 rfl) ?_
    refine lv_iconst (v := 0) hx hb dL_law_194 (by decide) ?_
    refine va_lald hx hb hK hPo 0 1 rfl rfl (vp_in_nI (n := 0) (N := 1) (by omega) (by omega)) dL_law_195 ?_
    refine lv_topl (fun z ez => ?_)
    obtain rfl : z = ov0 0 := ez
    refine lv_iload hx hb dL_law_196 (lv_at hl 0 rfl) ?_
    subst g1
    refine lv_if_eq (tgt := 205) hx hb dL_law_198 (by decide) (fun c7 => ?_) (fun c7 => ?_)
    · have hB := bI_0.mp c7
      refine lv_lconst (v := 0) hx hb dL_law_205 (by decide) ?_
      refine W.lcmp hx hb dL_law_206 ?_
      refine lv_if_eq (tgt := 212) hx hb dL_law_207 (by decide) (fun c6 => ?_) (fun c6 => absurd ((lg_cmp_eq _ _).mpr (by rw [hov, hB]; rfl)) c6)
      refine lv_goto (tgt := 847) hx hb dL_law_212 (by decide) ?_
      exact kb n dn (setN (xs (i + 1)) (xs (i + 2)) wn) vn tk kn M C al kd me px pcs bt wo le F fc nr nc sc ft1 rw lb ov0 (hLI.wn1 (setN_le hLI.h.2.2.1.2.1)) H locs ls hP hD hS (lv_sub hl [2, 3, 4, 5, 6] rfl)
    · have hB := bI_n0.mp c7
      refine lv_lconst (v := 1) hx hb dL_law_201 (by decide) ?_
      refine lv_goto (tgt := 206) hx hb dL_law_202 (by decide) ?_
      refine W.lcmp hx hb dL_law_206 ?_
      refine lv_if_eq (tgt := 212) hx hb dL_law_207 (by decide) (fun c6 => ?_) (fun c6 => absurd ((lg_cmp_eq _ _).mpr (by rw [hov, hB]; rfl)) c6)
      refine lv_goto (tgt := 847) hx hb dL_law_212 (by decide) ?_
      exact kb n dn (setN (xs (i + 1)) (xs (i + 2)) wn) vn tk kn M C al kd me px pcs bt wo le F fc nr nc sc ft1 rw lb ov0 (hLI.wn1 (setN_le hLI.h.2.2.1.2.1)) H locs ls hP hD hS (lv_sub hl [2, 3, 4, 5, 6] rfl)
end LAWW
