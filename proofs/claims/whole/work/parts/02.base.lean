/-! BASE: one form of contract for all methods: a world in, a world out; calls without a frame rule, for a callee takes the caller's whole world -/
abbrev tyl (cI cJ cG : ClassId) : List (ClassId × FieldType) := [(cI, .int), (cJ, .long), (cG, .array .int)]
/-- the world wl, held by U -/
def gw (D : va_G) (tys : List (ClassId × FieldType)) (A : Nat → Prop) (wl : va_W) (U : State) : Prop := va_P D vwCl wl U.heap ∧ va_K D vwCl tys U ∧ va_D A wl
abbrev gP (D : va_G) (tys : List (ClassId × FieldType)) (av : List Value) (wl : va_W) (sz : Nat) : Array Value → State → Prop := va_Pc av (fun U => U.heap.size = sz ∧ gw D tys (fun _ => True) wl U)
abbrev gQi (D : va_G) (tys : List (ClassId × FieldType)) (wl : va_W) (sz : Nat) {S : Type} (post : Int32 → S → Prop) (wf : S → va_W) : Array Value → State → Outcome → State → Prop := va_Qi post (fun u t => gw D tys (va_A wl sz) (wf u) t) (va_A wl sz)
abbrev gQl (D : va_G) (tys : List (ClassId × FieldType)) (wl : va_W) (sz : Nat) {S : Type} (post : Int64 → S → Prop) (wf : S → va_W) : Array Value → State → Outcome → State → Prop := va_Ql post (fun u t => gw D tys (va_A wl sz) (wf u) t) (va_A wl sz)
abbrev gQv (D : va_G) (tys : List (ClassId × FieldType)) (wl : va_W) (sz : Nat) {S : Type} (post : S → Prop) (wf : S → va_W) : Array Value → State → Outcome → State → Prop := va_Qv post (fun u t => gw D tys (va_A wl sz) (wf u) t) (va_A wl sz)
abbrev gQr (D : va_G) (tys : List (ClassId × FieldType)) (wl : va_W) (sz : Nat) {S : Type} (post : S → Prop) (wf : S → va_W) (ad : S → Nat) : Array Value → State → Outcome → State → Prop := va_Qr post (fun u a t => a = ad u ∧ gw D tys (va_A wl sz) (wf u) t) (va_A wl sz)
theorem gP_blind {D : va_G} {tys : List (ClassId × FieldType)} {av : List Value} {wl : va_W} {sz : Nat} : FrameBlind (gP D tys av wl sz) := fun a U g mk q => by
  obtain ⟨q0, q1, qP, qK, qD⟩ := q
  exact ⟨q0, q1, qP, va_K.moved (u := U) (U := U.calling g mk a) (Vm.Alike.refl U.vm) qK, qD⟩
/-- all that a callee may touch is the caller's, where its world is the caller's whole one -/
theorem g_all {A : Nat → Prop} {wl : va_W} {H0 H : Heap} {locs : List Loc} (hD : va_D A wl) (hS : va_S A H0 H locs) (hA : ∀ q, H0.size ≤ q → A q) : ∀ q, va_A wl H.size q → A q := by
  intro q h
  rcases h with ⟨k, e, h⟩ | h
  · exact hD.2 k _ h
  · exact hA q (Nat.le_trans hS.1 h)
section GBASE
variable {p : Program} {l : Launch} {e : Env} {R : Room} {s : State} {m : MethodId} {args : Array Value} {below : List Frame} {meth : Method} {c : Code} {H : Heap} {locs : List Loc} {cells slots : Nat} {Q : State → Prop}
variable {cc bytes : ByteArray} {pc nL maxL n index mc ms : Nat} {ls : Array Slot} {rest As st0 : List Value} {D : va_G} {A : Nat → Prop} {tys : List (ClassId × FieldType)} {ws ws' Ts : List Cond} {rm : Room} {y : MethodName} {H0 : Heap} {own C : String} {b : Nat} {wl : va_W} {ret : Option FieldType} {S : Type}
theorem gMet {av : List Value} {sz : Nat} {Qc : Array Value → State → Outcome → State → Prop} {ls0 : List (Nat × Value)} (hy : plainName y.cls = true) (hw : ws = Cond.code y cc maxL ret :: ws') (hn : (lg_sl av).length ≤ maxL) (hls : lv_args 0 av = ls0)
    (body : ∀ (p : Program) (e : Env) (s : State) (m : MethodId) (below : List Frame) (meth : Method) (c : Code), p.tables.exec = Jvm.exec → c.code = cc → meth.sig.returnType = ret → (∀ w ∈ ws, w.before av.toArray s = true) → s.vm.findClass y.cls = some m.cls → meth.locks = false → c.maxLocals = maxL → meth.name = y.name →
      ∀ (A : Nat → Prop), (∀ q, s.heap.size ≤ q → A q) → A = va_A wl sz → s.heap.size = sz → ∀ (Q : State → Prop), Q = MQ below Qc av.toArray s mc ms (va_A wl sz) → ∀ (H : Heap) (locs : List Loc), va_P D vwCl wl H → va_K D vwCl tys s → va_D A wl → va_S A s.heap H locs →
      ∀ ls : Array Slot, lv_has ls maxL ls0 → W p l e (headSpec ws rm).room s m av.toArray below meth c H locs 0 0 Q (F0 m 0 ls [])) : Met l y ws rm (gP D tys av wl sz) Qc mc ms (va_A wl sz) := by
  refine Met.ofW (cc := cc) (maxL := maxL) (ret := ret) hy hw ?_
  intro p e s m args below meth c s₁ B hml hv
  obtain ⟨rfl, hsz, hP, hK, hD0⟩ := hv
  have hts := atoms_spec (ws := ws) B.pre
  have hown : s.vm.findClass y.cls = some m.cls := findClass_of_methodNamed B.named
  have hl := lv_entry av (n := maxL) hn
  rw [lg_entry_eq]
  rw [hls] at hl
  exact body p e s m below meth c B.exec B.bytes B.returns hts hown B.notSynchronized hml (name_of_methodNamed B.named B.method).1 _ (fun q h => Or.inr (by rw [← hsz]; exact h)) rfl hsz _ rfl _ _ hP hK hD0.self va_S.rf _ hl
/-- ends -/
theorem g_zret {av : List Value} {v : Int32} {post : Int32 → S → Prop} {wf : S → va_W} {locs : List Loc} (hx : p.tables.exec = Jvm.exec) (hb : c.code = cc) (hr : meth.sig.returnType = some .boolean) (hlocks : meth.locks = false) (hn : narrow .boolean (.int v) = .int v) (u : S) (hp : post v u) (hP : va_P D vwCl (wf u) H) (hK : va_K D vwCl tys s) (hD : va_D (va_A wl s.heap.size) (wf u)) (hS : va_S (va_A wl s.heap.size) s.heap H locs) (hdg : decode cc pc = .ok (.ireturn, 1)) :
    W p l e R s m av.toArray below meth c H locs cells slots (MQ below (gQi D tys wl s.heap.size post wf) av.toArray s cells slots (va_A wl s.heap.size)) (F0 m pc ls [.int v]) :=
  W.zret hx hb hr hn (fun t ht hW => ⟨⟨v, u, rfl, hp, by rw [ht]; exact hP, va_K.moved hW.alike hK, hD⟩, hS.F ht⟩) hS.2.2 hdg hlocks
theorem g_iret {av : List Value} {v : Int32} {post : Int32 → S → Prop} {wf : S → va_W} {locs : List Loc} (hx : p.tables.exec = Jvm.exec) (hb : c.code = cc) (hr : meth.sig.returnType = some .int) (hlocks : meth.locks = false) (u : S) (hp : post v u) (hP : va_P D vwCl (wf u) H) (hK : va_K D vwCl tys s) (hD : va_D (va_A wl s.heap.size) (wf u)) (hS : va_S (va_A wl s.heap.size) s.heap H locs) (hdg : decode cc pc = .ok (.ireturn, 1)) :
    W p l e R s m av.toArray below meth c H locs cells slots (MQ below (gQi D tys wl s.heap.size post wf) av.toArray s cells slots (va_A wl s.heap.size)) (F0 m pc ls [.int v]) :=
  W.iret hx hb hr (fun t ht hW => ⟨⟨v, u, rfl, hp, by rw [ht]; exact hP, va_K.moved hW.alike hK, hD⟩, hS.F ht⟩) hS.2.2 hdg hlocks
theorem g_lret {av : List Value} {v : Int64} {post : Int64 → S → Prop} {wf : S → va_W} {locs : List Loc} (hx : p.tables.exec = Jvm.exec) (hb : c.code = cc) (hr : meth.sig.returnType = some .long) (hlocks : meth.locks = false) (u : S) (hp : post v u) (hP : va_P D vwCl (wf u) H) (hK : va_K D vwCl tys s) (hD : va_D (va_A wl s.heap.size) (wf u)) (hS : va_S (va_A wl s.heap.size) s.heap H locs) (hdg : decode cc pc = .ok (.lreturn, 1)) :
    W p l e R s m av.toArray below meth c H locs cells slots (MQ below (gQl D tys wl s.heap.size post wf) av.toArray s cells slots (va_A wl s.heap.size)) (F0 m pc ls [.long v]) :=
  W.lret hx hb hr (fun t ht hW => ⟨⟨v, u, rfl, hp, by rw [ht]; exact hP, va_K.moved hW.alike hK, hD⟩, hS.F ht⟩) hS.2.2 hdg hlocks
theorem g_vret {av : List Value} {post : S → Prop} {wf : S → va_W} {locs : List Loc} (hx : p.tables.exec = Jvm.exec) (hb : c.code = cc) (hr : meth.sig.returnType = none) (hlocks : meth.locks = false) (u : S) (hp : post u) (hP : va_P D vwCl (wf u) H) (hK : va_K D vwCl tys s) (hD : va_D (va_A wl s.heap.size) (wf u)) (hS : va_S (va_A wl s.heap.size) s.heap H locs) (hdg : decode cc pc = .ok (.return_, 1)) :
    W p l e R s m av.toArray below meth c H locs cells slots (MQ below (gQv D tys wl s.heap.size post wf) av.toArray s cells slots (va_A wl s.heap.size)) (F0 m pc ls []) :=
  W.vret hx hb hr (fun t ht hW => ⟨⟨u, rfl, hp, by rw [ht]; exact hP, va_K.moved hW.alike hK, hD⟩, hS.F ht⟩) hS.2.2 hdg hlocks
theorem g_aret {av : List Value} {v : Nat} {rt : FieldType} {post : S → Prop} {wf : S → va_W} {ad : S → Nat} {locs : List Loc} (hx : p.tables.exec = Jvm.exec) (hb : c.code = cc) (hr : meth.sig.returnType = some rt) (hrt : (∃ n, rt = .object n) ∨ ∃ t, rt = .array t) (hlocks : meth.locks = false) (u : S) (hp : post u) (hv : v = ad u) (hP : va_P D vwCl (wf u) H) (hK : va_K D vwCl tys s) (hD : va_D (va_A wl s.heap.size) (wf u)) (hS : va_S (va_A wl s.heap.size) s.heap H locs) (hdg : decode cc pc = .ok (.areturn, 1)) :
    W p l e R s m av.toArray below meth c H locs cells slots (MQ below (gQr D tys wl s.heap.size post wf ad) av.toArray s cells slots (va_A wl s.heap.size)) (F0 m pc ls [.ref v]) :=
  W.aret hx hb hr hrt (Or.inr ⟨_, rfl⟩) (fun t ht hW => ⟨⟨u, v, rfl, hp, hv, by rw [ht]; exact hP, va_K.moved hW.alike hK, hD⟩, hS.F ht⟩) hS.2.2 hdg hlocks
/-- calls: an instance method -/
theorem g_preV {ci q0 : Nat} {vc : vw_C} {fs : List Value} (hK : va_K D vwCl tys s) (hP : va_P D vwCl wl H) (hD : va_D A wl) (hc : vwCl[ci]? = some vc) (hC : vc.1 = C) (he : wl[q0]? = some (b, .inr (ci, fs))) : PreV s H C b (gP D tys (.ref b :: As) wl H.size) As :=
  ⟨gP_blind, by rw [← hC]; exact va_recv hK hP hc he, fun U hU hW => ⟨rfl, by rw [hU], by rw [hU]; exact hP, va_K.moved hW.alike hK, hD.weaken (fun _ _ _ _ => trivial)⟩⟩
theorem g_preS (hK : va_K D vwCl tys s) (hP : va_P D vwCl wl H) (hD : va_D A wl) : PreS s H (gP D tys As wl H.size) As :=
  ⟨gP_blind, fun U hU hW => ⟨rfl, by rw [hU], by rw [hU]; exact hP, va_K.moved hW.alike hK, hD.weaken (fun _ _ _ _ => trivial)⟩⟩
theorem gc_Vi {post : Int32 → S → Prop} {wf : S → va_W} {ci q0 : Nat} {vc : vw_C} {fs : List Value} (F : CallFix p m c cc nL s args Ts own) (hM : Met l y ws rm (gP D tys (.ref b :: As) wl H.size) (gQi D tys wl H.size post wf) mc ms (va_A wl H.size)) (cw : CallW R s args own C index y bytes maxL ret ws rm mc ms n)
    (hc : vwCl[ci]? = some vc) (hC : vc.1 = C) (he : wl[q0]? = some (b, .inr (ci, fs))) (hK : va_K D vwCl tys s) (hP : va_P D vwCl wl H) (hD : va_D A wl) (hS : va_S A H0 H locs) (hA : ∀ q, H0.size ≤ q → A q) (hn : As.length = n) (hsize : ls.size = nL) (hst : st0 = As.reverse ++ .ref b :: rest) (hW : (rest.map fun v => v.category).sum ≤ 8) (hdg : decode cc pc = .ok (.invokevirtual index, 3)) (hf : cells + mc ≤ R.cells ∧ slots + ms ≤ R.slots)
    (kk : ∀ (r : Int32) (u : S) (H1 : Heap) (locs1 : List Loc), post r u → va_P D vwCl (wf u) H1 → va_D A (wf u) → va_S A H0 H1 locs1 → W p l e R s m args below meth c H1 locs1 (cells + mc) (slots + ms) Q (F0 m (pc + 3) ls (.int r :: rest))) : W p l e R s m args below meth c H locs cells slots Q (F0 m pc ls st0) := by
  have hF := g_all hD hS hA
  exact va_calli (va_runV (As := As) (rest := rest) F hM cw (g_preV hK hP hD hc hC he) rfl hn hsize hst (lv_room hW) hdg hf) hS (fun q _ h => hF q h) hF (fun r u t H1 locs1 ht hvm hw hB hz1 hk1 hS1 => kk r u H1 locs1 hw (by rw [← ht]; exact hB.1) (hB.2.2.weaken (fun _ q _ h => hF q.1 h)) hS1)
theorem gc_Vl {post : Int64 → S → Prop} {wf : S → va_W} {ci q0 : Nat} {vc : vw_C} {fs : List Value} (F : CallFix p m c cc nL s args Ts own) (hM : Met l y ws rm (gP D tys (.ref b :: As) wl H.size) (gQl D tys wl H.size post wf) mc ms (va_A wl H.size)) (cw : CallW R s args own C index y bytes maxL ret ws rm mc ms n)
    (hc : vwCl[ci]? = some vc) (hC : vc.1 = C) (he : wl[q0]? = some (b, .inr (ci, fs))) (hK : va_K D vwCl tys s) (hP : va_P D vwCl wl H) (hD : va_D A wl) (hS : va_S A H0 H locs) (hA : ∀ q, H0.size ≤ q → A q) (hn : As.length = n) (hsize : ls.size = nL) (hst : st0 = As.reverse ++ .ref b :: rest) (hW : (rest.map fun v => v.category).sum ≤ 8) (hdg : decode cc pc = .ok (.invokevirtual index, 3)) (hf : cells + mc ≤ R.cells ∧ slots + ms ≤ R.slots)
    (kk : ∀ (r : Int64) (u : S) (H1 : Heap) (locs1 : List Loc), post r u → va_P D vwCl (wf u) H1 → va_D A (wf u) → va_S A H0 H1 locs1 → W p l e R s m args below meth c H1 locs1 (cells + mc) (slots + ms) Q (F0 m (pc + 3) ls (.long r :: rest))) : W p l e R s m args below meth c H locs cells slots Q (F0 m pc ls st0) := by
  have hF := g_all hD hS hA
  exact va_calll (va_runV (As := As) (rest := rest) F hM cw (g_preV hK hP hD hc hC he) rfl hn hsize hst (lv_room hW) hdg hf) hS (fun q _ h => hF q h) hF (fun r u t H1 locs1 ht hvm hw hB hz1 hk1 hS1 => kk r u H1 locs1 hw (by rw [← ht]; exact hB.1) (hB.2.2.weaken (fun _ q _ h => hF q.1 h)) hS1)
theorem gc_Vv {post : S → Prop} {wf : S → va_W} {ci q0 : Nat} {vc : vw_C} {fs : List Value} (F : CallFix p m c cc nL s args Ts own) (hM : Met l y ws rm (gP D tys (.ref b :: As) wl H.size) (gQv D tys wl H.size post wf) mc ms (va_A wl H.size)) (cw : CallW R s args own C index y bytes maxL ret ws rm mc ms n)
    (hc : vwCl[ci]? = some vc) (hC : vc.1 = C) (he : wl[q0]? = some (b, .inr (ci, fs))) (hK : va_K D vwCl tys s) (hP : va_P D vwCl wl H) (hD : va_D A wl) (hS : va_S A H0 H locs) (hA : ∀ q, H0.size ≤ q → A q) (hn : As.length = n) (hsize : ls.size = nL) (hst : st0 = As.reverse ++ .ref b :: rest) (hW : (rest.map fun v => v.category).sum ≤ 8) (hdg : decode cc pc = .ok (.invokevirtual index, 3)) (hf : cells + mc ≤ R.cells ∧ slots + ms ≤ R.slots)
    (kk : ∀ (u : S) (H1 : Heap) (locs1 : List Loc), post u → va_P D vwCl (wf u) H1 → va_D A (wf u) → va_S A H0 H1 locs1 → W p l e R s m args below meth c H1 locs1 (cells + mc) (slots + ms) Q (F0 m (pc + 3) ls rest)) : W p l e R s m args below meth c H locs cells slots Q (F0 m pc ls st0) := by
  have hF := g_all hD hS hA
  exact va_callv (va_runV (As := As) (rest := rest) F hM cw (g_preV hK hP hD hc hC he) rfl hn hsize hst (lv_room hW) hdg hf) hS (fun q _ h => hF q h) hF (fun u t H1 locs1 ht hvm hw hB hz1 hk1 hS1 => kk u H1 locs1 hw (by rw [← ht]; exact hB.1) (hB.2.2.weaken (fun _ q _ h => hF q.1 h)) hS1)
theorem gc_Vr {post : S → Prop} {wf : S → va_W} {ad : S → Nat} {ci q0 : Nat} {vc : vw_C} {fs : List Value} (F : CallFix p m c cc nL s args Ts own) (hM : Met l y ws rm (gP D tys (.ref b :: As) wl H.size) (gQr D tys wl H.size post wf ad) mc ms (va_A wl H.size)) (cw : CallW R s args own C index y bytes maxL ret ws rm mc ms n)
    (hc : vwCl[ci]? = some vc) (hC : vc.1 = C) (he : wl[q0]? = some (b, .inr (ci, fs))) (hK : va_K D vwCl tys s) (hP : va_P D vwCl wl H) (hD : va_D A wl) (hS : va_S A H0 H locs) (hA : ∀ q, H0.size ≤ q → A q) (hn : As.length = n) (hsize : ls.size = nL) (hst : st0 = As.reverse ++ .ref b :: rest) (hW : (rest.map fun v => v.category).sum ≤ 8) (hdg : decode cc pc = .ok (.invokevirtual index, 3)) (hf : cells + mc ≤ R.cells ∧ slots + ms ≤ R.slots)
    (kk : ∀ (u : S) (H1 : Heap) (locs1 : List Loc), post u → va_P D vwCl (wf u) H1 → va_D A (wf u) → va_S A H0 H1 locs1 → W p l e R s m args below meth c H1 locs1 (cells + mc) (slots + ms) Q (F0 m (pc + 3) ls (.ref (ad u) :: rest))) : W p l e R s m args below meth c H locs cells slots Q (F0 m pc ls st0) := by
  have hF := g_all hD hS hA
  refine va_callr (va_runV (As := As) (rest := rest) F hM cw (g_preV hK hP hD hc hC he) rfl hn hsize hst (lv_room hW) hdg hf) hS (fun q _ h => hF q h) hF (fun u r t H1 locs1 ht hvm hw hB hz1 hk1 hS1 => ?_)
  obtain ⟨hr, hB⟩ := hB
  subst hr
  exact kk u H1 locs1 hw (by rw [← ht]; exact hB.1) (hB.2.2.weaken (fun _ q _ h => hF q.1 h)) hS1
/-- calls: a static method -/
theorem gc_Si {post : Int32 → S → Prop} {wf : S → va_W} (F : CallFix p m c cc nL s args Ts own) (hM : Met l y ws rm (gP D tys As wl H.size) (gQi D tys wl H.size post wf) mc ms (va_A wl H.size)) (cw : CallB R s args own index y bytes maxL ret ws rm mc ms n ∧ (Cond.static y).before args s = true)
    (hK : va_K D vwCl tys s) (hP : va_P D vwCl wl H) (hD : va_D A wl) (hS : va_S A H0 H locs) (hA : ∀ q, H0.size ≤ q → A q) (hn : As.length = n) (hsize : ls.size = nL) (hst : st0 = As.reverse ++ rest) (hW : (rest.map fun v => v.category).sum ≤ 8) (hdg : decode cc pc = .ok (.invokestatic index, 3)) (hf : cells + mc ≤ R.cells ∧ slots + ms ≤ R.slots)
    (kk : ∀ (r : Int32) (u : S) (H1 : Heap) (locs1 : List Loc), post r u → va_P D vwCl (wf u) H1 → va_D A (wf u) → va_S A H0 H1 locs1 → W p l e R s m args below meth c H1 locs1 (cells + mc) (slots + ms) Q (F0 m (pc + 3) ls (.int r :: rest))) : W p l e R s m args below meth c H locs cells slots Q (F0 m pc ls st0) := by
  have hF := g_all hD hS hA
  exact va_calli (va_runS (As := As) (rest := rest) F hM cw (g_preS hK hP hD) rfl hn hsize hst (lv_room hW) hdg hf) hS (fun q _ h => hF q h) hF (fun r u t H1 locs1 ht hvm hw hB hz1 hk1 hS1 => kk r u H1 locs1 hw (by rw [← ht]; exact hB.1) (hB.2.2.weaken (fun _ q _ h => hF q.1 h)) hS1)
theorem gc_Sv {post : S → Prop} {wf : S → va_W} (F : CallFix p m c cc nL s args Ts own) (hM : Met l y ws rm (gP D tys As wl H.size) (gQv D tys wl H.size post wf) mc ms (va_A wl H.size)) (cw : CallB R s args own index y bytes maxL ret ws rm mc ms n ∧ (Cond.static y).before args s = true)
    (hK : va_K D vwCl tys s) (hP : va_P D vwCl wl H) (hD : va_D A wl) (hS : va_S A H0 H locs) (hA : ∀ q, H0.size ≤ q → A q) (hn : As.length = n) (hsize : ls.size = nL) (hst : st0 = As.reverse ++ rest) (hW : (rest.map fun v => v.category).sum ≤ 8) (hdg : decode cc pc = .ok (.invokestatic index, 3)) (hf : cells + mc ≤ R.cells ∧ slots + ms ≤ R.slots)
    (kk : ∀ (u : S) (H1 : Heap) (locs1 : List Loc), post u → va_P D vwCl (wf u) H1 → va_D A (wf u) → va_S A H0 H1 locs1 → W p l e R s m args below meth c H1 locs1 (cells + mc) (slots + ms) Q (F0 m (pc + 3) ls rest)) : W p l e R s m args below meth c H locs cells slots Q (F0 m pc ls st0) := by
  have hF := g_all hD hS hA
  exact va_callv (va_runS (As := As) (rest := rest) F hM cw (g_preS hK hP hD) rfl hn hsize hst (lv_room hW) hdg hf) hS (fun q _ h => hF q h) hF (fun u t H1 locs1 ht hvm hw hB hz1 hk1 hS1 => kk u H1 locs1 hw (by rw [← ht]; exact hB.1) (hB.2.2.weaken (fun _ q _ h => hF q.1 h)) hS1)
/-- calls: a constructor -/
theorem gc_Iv {post : S → Prop} {wf : S → va_W} (F : CallFix p m c cc nL s args Ts own) (hM : Met l y ws rm (gP D tys (.ref b :: As) wl H.size) (gQv D tys wl H.size post wf) mc ms (va_A wl H.size)) (cw : CallB R s args own index y bytes maxL none ws rm mc ms n ∧ y.name = "<init>" ∧ (Cond.instanceMethod y).before args s = true)
    (hK : va_K D vwCl tys s) (hP : va_P D vwCl wl H) (hD : va_D A wl) (hS : va_S A H0 H locs) (hA : ∀ q, H0.size ≤ q → A q) (hn : As.length = n) (hsize : ls.size = nL) (hst : st0 = As.reverse ++ .ref b :: rest) (hW : (rest.map fun v => v.category).sum ≤ 8) (hdg : decode cc pc = .ok (.invokespecial index, 3)) (hf : cells + mc ≤ R.cells ∧ slots + ms ≤ R.slots)
    (kk : ∀ (u : S) (H1 : Heap) (locs1 : List Loc), post u → va_P D vwCl (wf u) H1 → va_D A (wf u) → va_S A H0 H1 locs1 → W p l e R s m args below meth c H1 locs1 (cells + mc) (slots + ms) Q (F0 m (pc + 3) ls rest)) : W p l e R s m args below meth c H locs cells slots Q (F0 m pc ls st0) := by
  have hF := g_all hD hS hA
  exact va_callv (va_runI (As := As) (rest := rest) F hM cw (g_preS hK hP hD) rfl hn hsize hst (lv_room hW) hdg hf) hS (fun q _ h => hF q h) hF (fun u t H1 locs1 ht hvm hw hB hz1 hk1 hS1 => kk u H1 locs1 hw (by rw [← ht]; exact hB.1) (hB.2.2.weaken (fun _ q _ h => hF q.1 h)) hS1)
/-- an element of an array of int arrays -/
theorem g_aald (hexec : p.tables.exec = Jvm.exec) (hb : c.code = cc) (hK : va_K D vwCl tys s) (hP : va_P D vwCl wl H) (q0 t0 : Nat) {cA : ClassId} {a k v : Nat} {t : FieldType} {f : Nat → Option Nat} (ha : wl[q0]? = some (a, .inl (cA, k, .inr (.inr (.inr (.inr f)))))) (ht : tys[t0]? = some (cA, .array t)) {i : Int32} (hin : vp_in i k) (hv : f i.toNatClampNeg = some v) (hdg : decode cc pc = .ok (.aaload, 1))
    (kk : W p l e R s m args below meth c H locs cells slots Q (F0 m (pc + 1) ls (.ref v :: rest))) : W p l e R s m args below meth c H locs cells slots Q (F0 m pc ls (.int i :: .ref a :: rest)) := by
  have hlt : i.toNatClampNeg < k := Nat.not_le.mp fun q => hin (Or.inr q)
  refine W.aald (v := va_rf (f i.toNatClampNeg)) (ty := .array t) hexec hb (hP q0 _ ha) ((hK.2 t0 _ ht).1 k (fun j => va_rf (f j))) rfl (fun q => by cases q) (by show ¬ (i < 0 ∨ (arrV _ _ _).slots.size ≤ _); rw [arrV_size]; exact hin) (by show (arrV _ _ _).slots[_]? = _; rw [arrV_read _ _ hlt]) rfl rfl hdg ?_
  rw [hv]
  exact kk
end GBASE
/-- numbers that are tests -/
def bI (b : Bool) : Int32 := if b then 1 else 0
theorem bI_t : bI true = 1 := rfl
theorem bI_f : bI false = 0 := rfl
theorem bI_0 {b : Bool} : bI b = 0 ↔ b = false := by cases b <;> decide
theorem bI_n0 {b : Bool} : ¬ bI b = 0 ↔ b = true := by cases b <;> decide
theorem bI_nar (b : Bool) : narrow .boolean (.int (bI b)) = .int (bI b) := by cases b <;> rfl
/-- 0 ≤ x < n -/
def inB (x : Int32) (n : Nat) : Bool := decide (0 ≤ x.toInt) && decide (x.toInt < n)
theorem inB_nI {j n : Nat} (h : j < n) (hn : n < 2 ^ 31) : inB (nI j) n = true := by
  unfold inB; rw [nI_toInt (by omega)]; simp; omega
theorem inB_of {x : Int32} {n : Nat} (h : inB x n = true) (hn : n < 2 ^ 31) : ∃ j, j < n ∧ x = nI j := by
  unfold inB at h
  simp at h
  exact vp_in_of (vp_in_iff.mpr ⟨h.1, by omega⟩) hn
theorem inB_f1 {x : Int32} {n : Nat} (h : x < 0) : inB x n = false := by
  unfold inB
  rw [Int32.lt_iff_toInt_lt, Int32.toInt_zero] at h
  simp; omega
theorem inB_f2 {x : Int32} {n : Nat} (hn : n < 2 ^ 31) (h : nI n ≤ x) : inB x n = false := by
  unfold inB
  rw [Int32.le_iff_toInt_le, nI_toInt hn] at h
  simp; omega
theorem inB_t {x : Int32} {n : Nat} (hn : n < 2 ^ 31) (h0 : ¬ x < 0) (h : ¬ nI n ≤ x) : inB x n = true := by
  unfold inB
  rw [Int32.le_iff_toInt_le, nI_toInt hn] at h
  rw [Int32.lt_iff_toInt_lt, Int32.toInt_zero] at h0
  simp; omega
