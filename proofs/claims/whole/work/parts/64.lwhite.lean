theorem sw_1_2_3_4_5_6_7_8_9_10_11_12_13_14_15_16_17_18_19_20_of_21_P {D : va_G} {cl : List vw_C} {H : Heap} {x0 x1 x2 x3 x4 x5 x6 x7 x8 x9 x10 x11 x12 x13 x14 x15 x16 x17 x18 x19 x20 : Nat × va_E} {p q R : va_W} (h : va_P D cl (x0 :: x1 :: x2 :: x3 :: x4 :: x5 :: x6 :: x7 :: x8 :: x9 :: x10 :: x11 :: x12 :: x13 :: x14 :: x15 :: x16 :: x17 :: x18 :: x19 :: x20 :: (p ++ (q ++ R))) H) : va_P D cl (x1 :: x2 :: x3 :: x4 :: x5 :: x6 :: x7 :: x8 :: x9 :: x10 :: x11 :: x12 :: x13 :: x14 :: x15 :: x16 :: x17 :: x18 :: x19 :: x20 :: (p ++ (q ++ (R ++ [x0])))) H := sw_P (Xt := [x1, x2, x3, x4, x5, x6, x7, x8, x9, x10, x11, x12, x13, x14, x15, x16, x17, x18, x19, x20]) (Xo := [x0]) (va_P.part (X := [x0, x1, x2, x3, x4, x5, x6, x7, x8, x9, x10, x11, x12, x13, x14, x15, x16, x17, x18, x19, x20]) (pl := p ++ (q ++ R)) (cx := [x1, x2, x3, x4, x5, x6, x7, x8, x9, x10, x11, x12, x13, x14, x15, x16, x17, x18, x19, x20, x0]) h [1, 2, 3, 4, 5, 6, 7, 8, 9, 10, 11, 12, 13, 14, 15, 16, 17, 18, 19, 20, 0] rfl)
theorem sw_1_2_3_4_5_6_7_8_9_10_11_12_13_14_15_16_17_18_19_20_of_21_D {A : Nat → Prop} {x0 x1 x2 x3 x4 x5 x6 x7 x8 x9 x10 x11 x12 x13 x14 x15 x16 x17 x18 x19 x20 : Nat × va_E} {p q R : va_W} (h : va_D A (x0 :: x1 :: x2 :: x3 :: x4 :: x5 :: x6 :: x7 :: x8 :: x9 :: x10 :: x11 :: x12 :: x13 :: x14 :: x15 :: x16 :: x17 :: x18 :: x19 :: x20 :: (p ++ (q ++ R)))) : va_D A (x1 :: x2 :: x3 :: x4 :: x5 :: x6 :: x7 :: x8 :: x9 :: x10 :: x11 :: x12 :: x13 :: x14 :: x15 :: x16 :: x17 :: x18 :: x19 :: x20 :: (p ++ (q ++ (R ++ [x0])))) := sw_D (Xt := [x1, x2, x3, x4, x5, x6, x7, x8, x9, x10, x11, x12, x13, x14, x15, x16, x17, x18, x19, x20]) (Xo := [x0]) (va_D.part (X := [x0, x1, x2, x3, x4, x5, x6, x7, x8, x9, x10, x11, x12, x13, x14, x15, x16, x17, x18, x19, x20]) (pl := p ++ (q ++ R)) (cx := [x1, x2, x3, x4, x5, x6, x7, x8, x9, x10, x11, x12, x13, x14, x15, x16, x17, x18, x19, x20, x0]) h [1, 2, 3, 4, 5, 6, 7, 8, 9, 10, 11, 12, 13, 14, 15, 16, 17, 18, 19, 20, 0] (by decide) rfl)
theorem sw_1_2_3_4_5_6_7_8_9_10_11_12_13_14_15_16_17_18_19_20_of_21_Pb {D : va_G} {cl : List vw_C} {H : Heap} {x0 x1 x2 x3 x4 x5 x6 x7 x8 x9 x10 x11 x12 x13 x14 x15 x16 x17 x18 x19 x20 : Nat × va_E} {p q R : va_W} (h : va_P D cl (x1 :: x2 :: x3 :: x4 :: x5 :: x6 :: x7 :: x8 :: x9 :: x10 :: x11 :: x12 :: x13 :: x14 :: x15 :: x16 :: x17 :: x18 :: x19 :: x20 :: (p ++ (q ++ (R ++ [x0])))) H) : va_P D cl (x0 :: x1 :: x2 :: x3 :: x4 :: x5 :: x6 :: x7 :: x8 :: x9 :: x10 :: x11 :: x12 :: x13 :: x14 :: x15 :: x16 :: x17 :: x18 :: x19 :: x20 :: (p ++ (q ++ R))) H := va_P.part (X := [x1, x2, x3, x4, x5, x6, x7, x8, x9, x10, x11, x12, x13, x14, x15, x16, x17, x18, x19, x20, x0]) (pl := p ++ (q ++ R)) (cx := [x0, x1, x2, x3, x4, x5, x6, x7, x8, x9, x10, x11, x12, x13, x14, x15, x16, x17, x18, x19, x20]) (ws_P (Xt := [x1, x2, x3, x4, x5, x6, x7, x8, x9, x10, x11, x12, x13, x14, x15, x16, x17, x18, x19, x20]) (Xo := [x0]) h) [20, 0, 1, 2, 3, 4, 5, 6, 7, 8, 9, 10, 11, 12, 13, 14, 15, 16, 17, 18, 19] rfl
theorem sw_1_2_3_4_5_6_7_8_9_10_11_12_13_14_15_16_17_18_19_20_of_21_Db {A : Nat → Prop} {x0 x1 x2 x3 x4 x5 x6 x7 x8 x9 x10 x11 x12 x13 x14 x15 x16 x17 x18 x19 x20 : Nat × va_E} {p q R : va_W} (h : va_D A (x1 :: x2 :: x3 :: x4 :: x5 :: x6 :: x7 :: x8 :: x9 :: x10 :: x11 :: x12 :: x13 :: x14 :: x15 :: x16 :: x17 :: x18 :: x19 :: x20 :: (p ++ (q ++ (R ++ [x0]))))) : va_D A (x0 :: x1 :: x2 :: x3 :: x4 :: x5 :: x6 :: x7 :: x8 :: x9 :: x10 :: x11 :: x12 :: x13 :: x14 :: x15 :: x16 :: x17 :: x18 :: x19 :: x20 :: (p ++ (q ++ R))) := va_D.part (X := [x1, x2, x3, x4, x5, x6, x7, x8, x9, x10, x11, x12, x13, x14, x15, x16, x17, x18, x19, x20, x0]) (pl := p ++ (q ++ R)) (cx := [x0, x1, x2, x3, x4, x5, x6, x7, x8, x9, x10, x11, x12, x13, x14, x15, x16, x17, x18, x19, x20]) (ws_D (Xt := [x1, x2, x3, x4, x5, x6, x7, x8, x9, x10, x11, x12, x13, x14, x15, x16, x17, x18, x19, x20]) (Xo := [x0]) h) [20, 0, 1, 2, 3, 4, 5, 6, 7, 8, 9, 10, 11, 12, 13, 14, 15, 16, 17, 18, 19] (by decide) rfl
theorem vp_updL_self {f : Nat → Int64} {k : Nat} {v : Int64} : vp_updL f k v k = v := by simp [vp_updL]
abbrev gPt (D : va_G) (sx : Nat) (tys : List (ClassId × FieldType)) (av : List Value) (wl : va_W) (sz : Nat) : Array Value → State → Prop := va_Pc av (fun U => U.heap.size = sz ∧ gw D tys (fun _ => True) wl U ∧ gThr sx U)
theorem gThr.same {sx : Nat} {u U : State} (hv : U.vm = u.vm) (hh : U.heap = u.heap) (h : gThr sx u) : gThr sx U :=
  ⟨fun w hw => thr_move (s := u) (thrB_k w hw) (by rw [hv]; exact Vm.Alike.refl _) (fun q _ => by rw [hh]) (h.1 w hw), vk_R.same hv h.2⟩
theorem gPt_blind {D : va_G} {sx : Nat} {tys : List (ClassId × FieldType)} {av : List Value} {wl : va_W} {sz : Nat} : FrameBlind (gPt D sx tys av wl sz) := fun a U g mk q => by
  obtain ⟨q0, q1, ⟨qP, qK, qD⟩, qT⟩ := q
  exact ⟨q0, q1, ⟨qP, va_K.moved (u := U) (U := U.calling g mk a) (Vm.Alike.refl U.vm) qK, qD⟩, gThr.same (u := U) rfl rfl qT⟩
section GLW
variable {p : Program} {l : Launch} {e : Env} {R : Room} {s : State} {m : MethodId} {args : Array Value} {below : List Frame} {meth : Method} {c : Code} {H : Heap} {locs : List Loc} {cells slots : Nat} {Q : State → Prop}
variable {cc bytes : ByteArray} {pc nL maxL n index mc ms : Nat} {ls : Array Slot} {rest As st0 : List Value} {D : va_G} {A : Nat → Prop} {tys : List (ClassId × FieldType)} {ws ws' Ts : List Cond} {rm : Room} {y : MethodName} {H0 : Heap} {own C : String} {b : Nat} {wl : va_W} {ret : Option FieldType} {S : Type} {cG cI cJ : ClassId} {sx : Nat}
theorem gMetW {av : List Value} {sz : Nat} {Qc : Array Value → State → Outcome → State → Prop} {ls0 : List (Nat × Value)} {hh : List (Nat × Nat × Nat × Nat)} (hy : plainName y.cls = true) (hw : ws = Cond.codeWith y cc maxL ret hh :: ws') (hn : (lg_sl av).length ≤ maxL) (hls : lv_args 0 av = ls0)
    (body : ∀ (p : Program) (e : Env) (s : State) (m : MethodId) (below : List Frame) (meth : Method) (c : Code), p.tables.exec = Jvm.exec → c.code = cc → meth.sig.returnType = ret → (∀ w ∈ ws, w.before av.toArray s = true) → s.vm.findClass y.cls = some m.cls → meth.locks = false → c.maxLocals = maxL → meth.name = y.name →
      ∀ (A : Nat → Prop), (∀ q, s.heap.size ≤ q → A q) → A = va_A wl sz → s.heap.size = sz → ∀ (Q : State → Prop), Q = MQ below Qc av.toArray s mc ms (va_A wl sz) → ∀ (H : Heap) (locs : List Loc), va_P D vwCl wl H → va_K D vwCl tys s → va_D A wl → va_S A s.heap H locs →
      ∀ ls : Array Slot, lv_has ls maxL ls0 → gThr sx s → H = s.heap → c.exceptionTable.toList.map (fun h => (h.startPc, h.endPc, h.handlerPc, h.catchType)) = hh → W p l e (headSpec ws rm).room s m av.toArray below meth c H locs 0 0 Q (F0 m 0 ls [])) : Met l y ws rm (gPt D sx tys av wl sz) Qc mc ms (va_A wl sz) := by
  refine va_MetW (cc := cc) (maxL := maxL) (ret := ret) (hh := hh) hy hw ?_
  intro p e s m args below meth c s₁ B hml hv
  obtain ⟨rfl, hsz, ⟨hP, hK, hD0⟩, hT⟩ := hv
  have hts := atoms_spec (ws := ws) B.pre
  have hown : s.vm.findClass y.cls = some m.cls := findClass_of_methodNamed B.named
  obtain ⟨m9, meth9, c9, hn9, h1, h2, h3, h4, h5, -⟩ := Cond.codeWith_spec (hts (Cond.codeWith y cc maxL ret hh) (by rw [hw]; exact List.mem_cons_self))
  cases B.named.symm.trans hn9
  cases B.method.symm.trans h1
  cases (Stand.of_body B).code.symm.trans h2
  have hl := lv_entry av (n := maxL) hn
  rw [lg_entry_eq]
  rw [hls] at hl
  exact body p e s m below meth c B.exec B.bytes B.returns hts hown B.notSynchronized hml (name_of_methodNamed B.named B.method).1 _ (fun q h => Or.inr (by rw [← hsz]; exact h)) rfl hsz _ rfl _ _ hP hK hD0.self va_S.rf _ hl hT rfl h5
/-- a call that throws, and the handler of (0, 17, 20, 13) catches -/
theorem gc_VT {Pc : Array Value → State → Prop} (F : CallFix p m c cc nL s args Ts own) (hM : MetT l y ws rm Pc tQ mc ms) (hbl : FrameBlind Pc) (cw : CallW R s args own C index y bytes maxL ret ws rm mc ms n) (hrecv : ∃ cell : Cell, H[b]? = some cell ∧ cell.vm.isStatics = false ∧ s.vm.findClass C = some cell.cls)
    (hPc : ∀ U : State, U.heap = H → s.WarmedH U.vm → Pc (Value.ref b :: As).toArray U) (hn : As.length = n) (hsize : ls.size = nL) (hst : st0 = As.reverse ++ .ref b :: rest) (hW : (rest.map fun v => v.category).sum ≤ 8) (hdg : decode cc pc = .ok (.invokevirtual index, 3)) (hf : cells + mc ≤ R.cells ∧ slots + ms ≤ R.slots)
    (htab : c.exceptionTable.toList.map (fun h => (h.startPc, h.endPc, h.handlerPc, h.catchType)) = [(0, 17, 20, 13)]) (hpc : pc < 17) (hlink : (Cond.classLink own 13 RJx00060).before args s = true)
    (kk : ∀ (q : Nat) (H1 : Heap) (L : List Loc), H.size ≤ H1.size → (∀ i, i < H.size → H1[i]? = H[i]?) → (∀ x ∈ L, H.size ≤ x.base) → W p l e R s m args below meth c H1 (locs ++ L) (cells + mc) (slots + ms) Q (F0 m 20 ls [.ref q])) : W p l e R s m args below meth c H locs cells slots Q (F0 m pc ls st0) := by
  obtain ⟨⟨hrc, hrs, hfr, hlo, hws, hcw, hcode, hini, hy, hlen, hl⟩, hin, hse⟩ := cw
  obtain ⟨hx, hb, hml, ho, -⟩ := F
  obtain ⟨cellB, hcB, hoB, hclB⟩ := hrecv
  intro T hT X
  obtain ⟨mk, methM, hnamed, hmethM, hstM, habM⟩ := Cond.instanceMethod_spec hin
  obtain ⟨methM', cM, hmethM', -, -, -, -, -, -, hsigM⟩ := Cond.code_spec hnamed hcode
  cases hmethM.symm.trans hmethM'
  obtain ⟨c2, r2, m2, q1, q2, q3, q4, kP, hkP, hkPi⟩ := Cond.selects_spec hse
  cases hclB.symm.trans q1
  cases (State.methodFound?_of_named hnamed hy).symm.trans q2
  cases hnamed.symm.trans q3
  have hselP : selectMethod e.platform s.vm cellB.cls mk = .method mk := by rw [Launch.admits_selectMethod X.admits]; exact q4
  obtain ⟨vm₁, X₁, hstep₁⟩ := X.invokevirtual hx ho hl hnamed hmethM hstM hkP hkPi hy (a := b) (cell := cellB) (by rw [hT]; exact hcB)
    (fun z h => by rw [h] at hoB; cases hoB) hselP hmethM habM hkP hkPi (g := F0 m pc ls st0) rfl (argsL := As) (rest := rest) (hn.trans (hlen _ hsigM)) hst (by rw [hb]; exact hdg)
  obtain ⟨q, t, T', L, X', e1, e2, ⟨hq1, ⟨ce, hce, hcv, hcc⟩, hq3, hq4⟩, hL, st⟩ := backT (WW := 8) (bytes := bytes) (maxL := maxL) (ret := ret) hM hbl hrc hrs hfr hlo hws hcw (fun a' U hW => word_at hW (Or.inl (by first | rfl | simp [Cond.onTables, Cond.keeps, Cond.steady])) hini) X₁ (g := F0 m pc ls rest) rfl (hsize.trans hml.symm) (by rw [hb]; exact hdg) (lv_room hW) (X₁.named hnamed) hf.1 hf.2 (hPc (T.setVm vm₁) hT X₁.warmed)
  have hTs : (T.setVm vm₁).heap = H := hT
  have hq3' : ∀ i, i < H.size → T'.heap[i]? = H[i]? := fun i hi => by
    rw [e1, ← hTs]
    exact hq3 i (by rw [← hTs] at hi; exact hi)
  have hq4' : H.size ≤ T'.heap.size := by rw [e1, ← hTs]; exact hq4
  have hpl : e.platform.magicAccessors = ({} : Platform).magicAccessors := by rw [X.admits.platform]
  obtain ⟨c0, hfc0, hcl⟩ := Cond.classLink_spec ho hlink e.platform hpl
  obtain ⟨hg₁, hwarm₁, hready₁⟩ := State.classEntry (e := e) X'.warmed hcl
  have hno : (T'.vm.noted m.cls 13 (.cls c0)).classes.size ≤ T'.vm.classes.size := by no_record
  generalize hvm₂ : T'.vm.noted m.cls 13 (.cls c0) = vm₂ at hg₁ hwarm₁ hready₁ hno
  have X₂ := X'.noted hwarm₁
  have hcls : ce.cls = c0 := by
    have h9 : s.vm.findClass RJx00060 = some ce.cls := by
      have h8 : (T.setVm vm₁).vm.findClass RJx00060 = some ce.cls := hcc
      rw [X₁.warmed.alike.findClass] at h8
      exact h8
    exact Option.some.inj (h9.symm.trans hfc0)
  have hcla : ∃ z, vm₂.classes[c0]? = some z := Vm.classAt_of_findClass (name := RJx00060) (by rw [hwarm₁.alike.findClass]; exact hfc0)
  obtain ⟨tt, a1, b1⟩ := kk q T'.heap L hq4' hq3' (fun x hx => by rw [← hTs]; exact hL x hx) (T'.setVm vm₂) rfl X₂
  refine ⟨tt, ?_, b1⟩
  refine hstep₁ _ fun acts => ?_
  rw [doInvoke_state]
  refine st.trans ?_
  have htl : ∃ x : ExceptionTableEntry, c.exceptionTable.toList = [x] ∧ x.startPc = 0 ∧ x.endPc = 17 ∧ x.handlerPc = 20 ∧ x.catchType = 13 := by
    cases hh : c.exceptionTable.toList with
    | nil => rw [hh] at htab; cases htab
    | cons x r =>
      cases r with
      | nil =>
        rw [hh] at htab
        have h9 := (List.cons.inj htab).1
        have h9' := Prod.mk.inj h9
        have h8 := Prod.mk.inj h9'.2
        have h7 := Prod.mk.inj h8.2
        exact ⟨x, rfl, h9'.1, h8.1, h7.1, h7.2⟩
      | cons z r => rw [hh] at htab; cases (List.cons.inj htab).2
  obtain ⟨x, hxl, hx1, hx2, hx3, hx4⟩ := htl
  refine caughtC (c := c) (pc := 20) (vm' := vm₂) X'.here (fun Q E d acts => ?_) a1
  rw [W.findHandler_eq (meth := meth) (code := c) (by rw [Stand.throwing_vm]; exact X'.method') X'.code, hxl]
  rw [← hx3]
  exact go_cold (k := c0) (cell := ce) (by simp [covers, hx1, hx2]; exact hpc) (by rw [hx4]; decide) (by rw [Stand.throwing_vm, hx4]; exact hg₁) (by rw [Stand.throwing_vm]; exact hno) (by rw [Stand.throwing_heap, e1]; exact hce) (fun k h => by rw [hcv] at h; cases h) (by rw [hcls]; exact hcla) hcla (by rw [hcls]; exact asg_self)
end GLW
abbrev thrG2 : List Cond := .classLink RL 13 RJx00060 :: thrG
abbrev wsL_whiteT : List Cond := wsL_white ++ thrG2
theorem gL_whiteT_X3_white : GoodIn wsL_whiteT (wsV RL 7 RX3 yX3_white wsX3_white) := goodIn_ext gL_white_X3_white
theorem gL_whiteT_X3_whiteT : GoodIn wsL_whiteT (wsV RL 7 RX3 yX3_white wsX3_whiteT) := fun w hw => by
  rcases List.mem_append.mp (show w ∈ wsV RL 7 RX3 yX3_white wsX3_white ++ thrG from hw) with h1 | h1
  · exact ⟨List.mem_append_left _ (gL_white_X3_white w h1).1, (gL_white_X3_white w h1).2⟩
  · exact ⟨List.mem_append_right _ (List.mem_cons_of_mem _ h1), good_of_word (thrG_g w h1)⟩
abbrev rL_white : Room := { frames := 8, cells := 1, slots := 6, locals := 130 }
set_option maxHeartbeats 4000000 in
set_option maxRecDepth 100000 in
theorem c_L_white (l : Launch) (hfl : l.flags = pinnedFlags ++ [noTraceFlag]) (D : va_G) (cI cJ cG : ClassId) (sz : Nat) (R : va_W) (h_ c_ d_ w_ v_ t_ rk_ ro_ rc_ al_ b_ ka_ na_ jo_ me_ wo_ fd_ nr_ nc_ sc_ : Nat) (ar ac : Nat → Nat) (K : Nat) (n : Nat) (dn : Nat → Nat) (wn : Nat → Nat) (vn : Nat → Nat) (tk : Int64) (kn : Nat → Nat) (M : Nat → Nat → Nat) (C : Nat → Nat → Nat) (al : Nat → Nat) (kd : Nat → Nat) (me : Nat → Nat) (px : Nat) (pcs : Nat) (bt : Bst) (wo : Nat → Int64) (le : Int64) (F : Nat → Nat) (fc : Nat) (nr : Nat → Nat) (nc : Nat → Nat) (sc : Nat → Nat) (o_ sx : Nat) (ov : Nat → Int64) (x y : Int32) (hI : HI K n dn wn vn kn M C kd px pcs bt F fc nr nc) : Met l yL_white wsL_whiteT rL_white (gPt D sx (tyl cI cJ cG) [.ref h_, .int x, .int y, .ref o_] ((o_, .inl (cJ, 1, .inr (.inl ov))) :: (hwW cI cJ cG R h_ c_ d_ w_ v_ t_ rk_ ro_ rc_ al_ b_ ka_ na_ jo_ me_ wo_ fd_ nr_ nc_ sc_ ar ac K n dn wn vn tk kn M C al kd me px pcs bt wo le F fc nr nc sc)) sz) (gQi D (tyl cI cJ cG) ((o_, .inl (cJ, 1, .inr (.inl ov))) :: (hwW cI cJ cG R h_ c_ d_ w_ v_ t_ rk_ ro_ rc_ al_ b_ ka_ na_ jo_ me_ wo_ fd_ nr_ nc_ sc_ ar ac K n dn wn vn tk kn M C al kd me px pcs bt wo le F fc nr nc sc)) sz (fun r (u : (Nat → Nat) × (Nat → Int64)) => r = (if inB x 8 = true then 0 else 1) ∧ u.1 = setN x y wn ∧ (inB x 8 = true → u.2 0 = if inB y 256 = true then 1 else 0)) (fun u => ((o_, .inl (cJ, 1, .inr (.inl u.2))) :: (hwW cI cJ cG R h_ c_ d_ w_ v_ t_ rk_ ro_ rc_ al_ b_ ka_ na_ jo_ me_ wo_ fd_ nr_ nc_ sc_ ar ac K n dn u.1 vn tk kn M C al kd me px pcs bt wo le F fc nr nc sc)))) 1 6 (va_A ((o_, .inl (cJ, 1, .inr (.inl ov))) :: (hwW cI cJ cG R h_ c_ d_ w_ v_ t_ rk_ ro_ rc_ al_ b_ ka_ na_ jo_ me_ wo_ fd_ nr_ nc_ sc_ ar ac K n dn wn vn tk kn M C al kd me px pcs bt wo le F fc nr nc sc)) sz) := by
  refine gMetW (sx := sx) (cc := cL_white) (maxL := 5) (ret := (some .int)) (ls0 := [(0, .ref h_), (1, .int x), (2, .int y), (3, .ref o_)]) (hh := [(0, 17, 20, 13)]) (by decide) rfl (Nat.le_of_ble_eq_true rfl) rfl ?_
  intro p e s m below meth c hx hb hr hts hown hlocks hml hname A hA hAe hsz Q hQe H locs hP hK hD hS ls hl hT hH htab
  have hown : s.vm.findClass RL = some m.cls := hown
  refine lv_aload_n hx hb dL_white_0 rfl (lv_at hl 3 rfl) ?_
  refine lv_iconst (v := 0) hx hb dL_white_1 (by decide) ?_
  refine lv_aload_n hx hb dL_white_2 rfl (lv_at hl 0 rfl) ?_
  refine lv_iload_n hx hb dL_white_3 rfl (lv_at hl 1 rfl) ?_
  refine lv_iload_n hx hb dL_white_4 rfl (lv_at hl 2 rfl) ?_
  cases h8 : inB x 8 with
  | true =>
    obtain ⟨a, ha_, rfl⟩ := inB_of h8 (by omega)
    have hP := sw_1_2_3_4_5_6_7_8_9_10_11_12_13_14_15_16_17_18_19_20_of_21_P hP
    have hD := sw_1_2_3_4_5_6_7_8_9_10_11_12_13_14_15_16_17_18_19_20_of_21_D hD
    refine gc_Vi (As := [.int (nI a), .int y]) (rest := [.int 0, .ref o_]) (ci := 4) (q0 := 0) ⟨hx, hb, hml, hown, hts⟩ (c_X3_white l D cI cJ cG H.size (R ++ [(o_, .inl (cJ, 1, .inr (.inl ov)))]) h_ c_ d_ w_ v_ t_ rk_ ro_ rc_ al_ b_ ka_ na_ jo_ me_ wo_ fd_ nr_ nc_ sc_ ar ac K n dn wn vn tk kn M C al kd me px pcs bt wo le F fc nr nc sc a y ha_ hI) (cwV 2 hts gL_whiteT_X3_white rfl rfl rfl (by decide +kernel) ⟨Nat.le_of_ble_eq_true rfl, Nat.le_of_ble_eq_true rfl⟩) rfl rfl rfl hK hP hD hS hA rfl hl.1 rfl (Nat.le_of_ble_eq_true rfl) dL_white_5 ⟨Nat.le_of_ble_eq_true rfl, Nat.le_of_ble_eq_true rfl⟩ (fun r5 u5 H locs h5 hP hD hS => ?_)
    have hP : va_P D vwCl ((o_, .inl (cJ, 1, .inr (.inl ov))) :: (hwW cI cJ cG R h_ c_ d_ w_ v_ t_ rk_ ro_ rc_ al_ b_ ka_ na_ jo_ me_ wo_ fd_ nr_ nc_ sc_ ar ac K n dn u5 vn tk kn M C al kd me px pcs bt wo le F fc nr nc sc)) H := sw_1_2_3_4_5_6_7_8_9_10_11_12_13_14_15_16_17_18_19_20_of_21_Pb hP
    have hD : va_D A ((o_, .inl (cJ, 1, .inr (.inl ov))) :: (hwW cI cJ cG R h_ c_ d_ w_ v_ t_ rk_ ro_ rc_ al_ b_ ka_ na_ jo_ me_ wo_ fd_ nr_ nc_ sc_ ar ac K n dn u5 vn tk kn M C al kd me px pcs bt wo le F fc nr nc sc)) := sw_1_2_3_4_5_6_7_8_9_10_11_12_13_14_15_16_17_18_19_20_of_21_Db hD
    obtain ⟨h50, h51⟩ := id h5
    subst h50
    refine lv_if_eq (tgt := 15) hx hb dL_white_8 (by decide) (fun c8 => ?_) (fun c8 => ?_)
    · have hB8 := bI_0.mp c8
      refine lv_lconst (v := 0) hx hb dL_white_15 (by decide) ?_
      refine va_last hx hb hK hP hD hS 0 1 rfl rfl (vp_in_nI (n := 0) (N := 1) (by omega) (by omega)) dL_white_16 (fun H locs hP hD hS => ?_)
      refine lv_goto (tgt := 24) hx hb dL_white_17 (by decide) ?_
      refine lv_iconst (v := 0) hx hb dL_white_24 (by decide) ?_
      refine W.widen (k := 1) (n := 6) (Nat.le_of_ble_eq_true rfl) (Nat.le_of_ble_eq_true rfl) ?_
      subst hQe
      subst hAe
      subst hsz
      exact g_iret hx hb hr hlocks (u5, vp_updL ov 0 0) ⟨by rw [if_pos h8], h5.2, fun _ => by rw [if_neg (by rw [hB8]; decide)]; show vp_updL ov 0 _ 0 = _; exact vp_updL_self⟩ hP hK hD hS dL_white_25
    · have hB8 := bI_n0.mp c8
      refine lv_lconst (v := 1) hx hb dL_white_11 (by decide) ?_
      refine lv_goto (tgt := 16) hx hb dL_white_12 (by decide) ?_
      refine va_last hx hb hK hP hD hS 0 1 rfl rfl (vp_in_nI (n := 0) (N := 1) (by omega) (by omega)) dL_white_16 (fun H locs hP hD hS => ?_)
      refine lv_goto (tgt := 24) hx hb dL_white_17 (by decide) ?_
      refine lv_iconst (v := 0) hx hb dL_white_24 (by decide) ?_
      refine W.widen (k := 1) (n := 6) (Nat.le_of_ble_eq_true rfl) (Nat.le_of_ble_eq_true rfl) ?_
      subst hQe
      subst hAe
      subst hsz
      exact g_iret hx hb hr hlocks (u5, vp_updL ov 0 1) ⟨by rw [if_pos h8], h5.2, fun _ => by rw [if_pos hB8]; show vp_updL ov 0 _ 0 = _; exact vp_updL_self⟩ hP hK hD hS dL_white_25
  | false =>
    refine gc_VT (As := [.int x, .int y]) (rest := [.int 0, .ref o_]) (Pc := tP D cI cJ cG h_ sx x y) ⟨hx, hb, hml, hown, hts⟩ (t_X3_white l hfl D cI cJ cG h_ sx x y h8) tP_blind (cwV 2 hts gL_whiteT_X3_whiteT rfl rfl rfl (by decide +kernel) ⟨Nat.le_of_ble_eq_true rfl, Nat.le_of_ble_eq_true rfl⟩) (va_recv hK hP (ci := 4) (q0 := 1) rfl rfl) (fun U hU hW => ⟨rfl, va_K.moved hW.alike hK, gThr.moved hW (fun q _ => by rw [hU, hH]) hT⟩) rfl hl.1 rfl (Nat.le_of_ble_eq_true rfl) dL_white_5 ⟨Nat.le_of_ble_eq_true rfl, Nat.le_of_ble_eq_true rfl⟩ htab (by decide) (hts (.classLink RL 13 RJx00060) (List.mem_append_right _ List.mem_cons_self)) (fun q H1 L hq1 hq2 hL => ?_)
    have hP : va_P D vwCl ((o_, .inl (cJ, 1, .inr (.inl ov))) :: (hwW cI cJ cG R h_ c_ d_ w_ v_ t_ rk_ ro_ rc_ al_ b_ ka_ na_ jo_ me_ wo_ fd_ nr_ nc_ sc_ ar ac K n dn wn vn tk kn M C al kd me px pcs bt wo le F fc nr nc sc)) H1 := hP.kept (fun k x hx => hq2 _ ((hP k x hx).lt))
    have hS : va_S A s.heap H1 (locs ++ L) := ⟨Nat.le_trans hS.1 hq1, fun q h1 h2 => by rw [hq2 q (Nat.lt_of_lt_of_le h1 hS.1)]; exact hS.2.1 q h1 h2, fun z hz => by
      rcases List.mem_append.mp hz with h | h
      · exact hS.2.2 z h
      · exact hA _ (Nat.le_trans hS.1 (hL z h))⟩
    refine lv_astore (lv' := [(4, .ref q), (0, .ref h_), (1, .int x), (2, .int y), (3, .ref o_)]) hx hb dL_white_20 hl (by decide) rfl (fun ls hl => ?_)
    refine lv_iconst (v := 1) hx hb dL_white_22 (by decide) ?_
    subst hQe
    subst hAe
    subst hsz
    exact g_iret hx hb hr hlocks (wn, ov) ⟨by rw [h8, if_neg (by decide)], (setN_f1 h8).symm ▸ rfl, fun h => by rw [h8] at h; cases h⟩ hP hK hD hS dL_white_23
abbrev rL_cell : Room := { frames := 0, cells := 0, slots := 0, locals := 0 }
abbrev gPx (D : va_G) (b L : Nat) (xs : Nat → Int32) (tys : List (ClassId × FieldType)) (av : List Value) (sz : Nat) : Array Value → State → Prop := va_Pc av (fun U => U.heap.size = sz ∧ va_K D vwCl tys U ∧ va_X b L xs U U.heap)
theorem gPx_blind {D : va_G} {b L : Nat} {xs : Nat → Int32} {tys : List (ClassId × FieldType)} {av : List Value} {sz : Nat} : FrameBlind (gPx D b L xs tys av sz) := fun a U g mk q => by
  obtain ⟨q0, q1, q2, q3⟩ := q
  exact ⟨q0, q1, va_K.moved (u := U) (U := U.calling g mk a) (Vm.Alike.refl U.vm) q2, va_X.moved (u := U) (U := U.calling g mk a) (Vm.Alike.refl U.vm) q3⟩
set_option maxHeartbeats 4000000 in
theorem c_L_cell (l : Launch) (D : va_G) (cI cJ cG : ClassId) (sz b L : Nat) (xs : Nat → Int32) (hL : L ≤ 2561) : Met l yL_cell wsL_cell rL_cell (gPx D b L xs (tyl cI cJ cG) [.ref b, .int 0] sz) (gQi D (tyl cI cJ cG) [] sz (fun r (_ : Unit) => r = if 0 < L then xs 0 else 0) (fun _ => [])) 0 0 (va_A [] sz) := by
  refine Met.ofW (cc := cL_cell) (maxL := 2) (ret := some .int) (by decide) rfl ?_
  intro p e s m args below meth c s₁ B hml hv
  obtain ⟨rfl, hsz, hK, hX⟩ := hv
  subst hsz
  have hx := B.exec
  have hb := B.bytes
  have hr := B.returns
  have hlocks := B.notSynchronized
  have hbl : b < s.heap.size := by obtain ⟨scr, h1, -⟩ := hX; exact (Array.getElem?_eq_some_iff.mp h1).1
  have hbA : ¬ va_A [] s.heap.size b := fun h => by
    rcases h with ⟨k, e9, h⟩ | h
    · cases h
    · exact Nat.not_lt.mpr h hbl
  have hl := lv_entry ([.ref b, .int 0] : List Value) (n := 2) (Nat.le_of_ble_eq_true rfl)
  rw [lg_entry_eq]
  have body : ∀ ls : Array Slot, lv_has ls 2 [(0, .ref b), (1, .int 0)] → W p l e (headSpec wsL_cell rL_cell).room s m ([.ref b, .int 0] : List Value).toArray below meth c s.heap [] 0 0 (MQ below (gQi D (tyl cI cJ cG) [] s.heap.size (fun r (_ : Unit) => r = if 0 < L then xs 0 else 0) (fun _ => [])) ([.ref b, .int 0] : List Value).toArray s 0 0 (va_A [] s.heap.size)) (F0 m 0 ls []) := by
    intro ls hl
    have hS : va_S (va_A [] s.heap.size) s.heap s.heap [] := va_S.rf
    refine lv_iload_n hx hb dL_cell_0 rfl (lv_at hl 1 rfl) ?_
    refine lv_aload_n hx hb dL_cell_1 rfl (lv_at hl 0 rfl) ?_
    refine va_slen hx hb hX hbl hbA hS dL_cell_2 ?_
    refine lv_icmp_ge (tgt := 12) hx hb dL_cell_3 (by decide) (fun c3 => ?_) (fun c3 => ?_)
    · have h0 : ¬ 0 < L := by
        have := (nI_leI (a := L) (b := 0) (by omega) (by omega)).mp c3
        omega
      refine lv_iconst (v := 0) hx hb dL_cell_12 (by decide) ?_
      exact g_iret hx hb hr hlocks () (by rw [if_neg h0]) va_P0 hK va_D0 hS dL_cell_13
    · have h0 : 0 < L := by
        have := mt (nI_leI (a := L) (b := 0) (by omega) (by omega)).mpr c3
        omega
      refine lv_aload_n hx hb dL_cell_6 rfl (lv_at hl 0 rfl) ?_
      refine lv_iload_n hx hb dL_cell_7 rfl (lv_at hl 1 rfl) ?_
      refine va_sld hx hb hX hbl hbA hS (vp_in_nI (n := 0) h0 (by omega)) dL_cell_8 ?_
      refine lv_goto (tgt := 13) hx hb dL_cell_9 (by decide) ?_
      exact g_iret hx hb hr hlocks () (by rw [if_pos h0]; rfl) va_P0 hK va_D0 hS dL_cell_13
  exact body _ hl
