/-- what int[][] is made of -/
def gArr (cG cI : ClassId) (U : State) : Prop := ∃ k : Class, U.vm.classes[cG]? = some k ∧ k.kind = .array cI (.array .int)
theorem gArr.moved {cG cI : ClassId} {u U : State} (hvm : u.vm.Alike U.vm) (h : gArr cG cI u) : gArr cG cI U := by
  obtain ⟨k, h1, h2⟩ := h
  obtain ⟨k1, h3, h4⟩ := hvm.2.2 _ _ h1
  exact ⟨k1, h3, by rw [h4]; exact h2⟩
abbrev gPa (D : va_G) (cG cI : ClassId) (tys : List (ClassId × FieldType)) (av : List Value) (wl : va_W) (sz : Nat) : Array Value → State → Prop := va_Pc av (fun U => U.heap.size = sz ∧ gw D tys (fun _ => True) wl U ∧ gArr cG cI U)
theorem gPa_blind {D : va_G} {cG cI : ClassId} {tys : List (ClassId × FieldType)} {av : List Value} {wl : va_W} {sz : Nat} : FrameBlind (gPa D cG cI tys av wl sz) := fun a U g mk q => by
  obtain ⟨q0, q1, ⟨qP, qK, qD⟩, qG⟩ := q
  exact ⟨q0, q1, ⟨qP, va_K.moved (u := U) (U := U.calling g mk a) (Vm.Alike.refl U.vm) qK, qD⟩, gArr.moved (u := U) (U := U.calling g mk a) (Vm.Alike.refl U.vm) qG⟩
section GARR
variable {p : Program} {l : Launch} {e : Env} {R : Room} {s : State} {m : MethodId} {args : Array Value} {below : List Frame} {meth : Method} {c : Code} {H : Heap} {locs : List Loc} {cells slots : Nat} {Q : State → Prop}
variable {cc bytes : ByteArray} {pc nL maxL n index mc ms : Nat} {ls : Array Slot} {rest As st0 : List Value} {D : va_G} {A : Nat → Prop} {tys : List (ClassId × FieldType)} {ws ws' Ts : List Cond} {rm : Room} {y : MethodName} {H0 : Heap} {own C : String} {b : Nat} {wl : va_W} {ret : Option FieldType} {S : Type} {cG cI : ClassId}
theorem gMeta {av : List Value} {sz : Nat} {Qc : Array Value → State → Outcome → State → Prop} {ls0 : List (Nat × Value)} (hy : plainName y.cls = true) (hw : ws = Cond.code y cc maxL ret :: ws') (hn : (lg_sl av).length ≤ maxL) (hls : lv_args 0 av = ls0)
    (body : ∀ (p : Program) (e : Env) (s : State) (m : MethodId) (below : List Frame) (meth : Method) (c : Code), p.tables.exec = Jvm.exec → c.code = cc → meth.sig.returnType = ret → (∀ w ∈ ws, w.before av.toArray s = true) → s.vm.findClass y.cls = some m.cls → meth.locks = false → c.maxLocals = maxL → meth.name = y.name →
      ∀ (A : Nat → Prop), (∀ q, s.heap.size ≤ q → A q) → A = va_A wl sz → s.heap.size = sz → ∀ (Q : State → Prop), Q = MQ below Qc av.toArray s mc ms (va_A wl sz) → ∀ (H : Heap) (locs : List Loc), va_P D vwCl wl H → va_K D vwCl tys s → va_D A wl → va_S A s.heap H locs →
      ∀ ls : Array Slot, lv_has ls maxL ls0 → gArr cG cI s → W p l e (headSpec ws rm).room s m av.toArray below meth c H locs 0 0 Q (F0 m 0 ls [])) : Met l y ws rm (gPa D cG cI tys av wl sz) Qc mc ms (va_A wl sz) := by
  refine Met.ofW (cc := cc) (maxL := maxL) (ret := ret) hy hw ?_
  intro p e s m args below meth c s₁ B hml hv
  obtain ⟨rfl, hsz, ⟨hP, hK, hD0⟩, hG⟩ := hv
  have hts := atoms_spec (ws := ws) B.pre
  have hown : s.vm.findClass y.cls = some m.cls := findClass_of_methodNamed B.named
  have hl := lv_entry av (n := maxL) hn
  rw [lg_entry_eq]
  rw [hls] at hl
  exact body p e s m below meth c B.exec B.bytes B.returns hts hown B.notSynchronized hml (name_of_methodNamed B.named B.method).1 _ (fun q h => Or.inr (by rw [← hsz]; exact h)) rfl hsz _ rfl _ _ hP hK hD0.self va_S.rf _ hl hG
theorem ga_preS (hK : va_K D vwCl tys s) (hG : gArr cG cI s) (hP : va_P D vwCl wl H) (hD : va_D A wl) : PreS s H (gPa D cG cI tys As wl H.size) As :=
  ⟨gPa_blind, fun U hU hW => ⟨rfl, by rw [hU], ⟨by rw [hU]; exact hP, va_K.moved hW.alike hK, hD.weaken (fun _ _ _ _ => trivial)⟩, hG.moved hW.alike⟩⟩
theorem gca_Iv {post : S → Prop} {wf : S → va_W} (F : CallFix p m c cc nL s args Ts own) (hM : Met l y ws rm (gPa D cG cI tys (.ref b :: As) wl H.size) (gQv D tys wl H.size post wf) mc ms (va_A wl H.size)) (cw : CallB R s args own index y bytes maxL none ws rm mc ms n ∧ y.name = "<init>" ∧ (Cond.instanceMethod y).before args s = true) (hG : gArr cG cI s)
    (hK : va_K D vwCl tys s) (hP : va_P D vwCl wl H) (hD : va_D A wl) (hS : va_S A H0 H locs) (hA : ∀ q, H0.size ≤ q → A q) (hn : As.length = n) (hsize : ls.size = nL) (hst : st0 = As.reverse ++ .ref b :: rest) (hW : (rest.map fun v => v.category).sum ≤ 8) (hdg : decode cc pc = .ok (.invokespecial index, 3)) (hf : cells + mc ≤ R.cells ∧ slots + ms ≤ R.slots)
    (kk : ∀ (u : S) (H1 : Heap) (locs1 : List Loc), post u → va_P D vwCl (wf u) H1 → va_D A (wf u) → va_S A H0 H1 locs1 → W p l e R s m args below meth c H1 locs1 (cells + mc) (slots + ms) Q (F0 m (pc + 3) ls rest)) : W p l e R s m args below meth c H locs cells slots Q (F0 m pc ls st0) := by
  have hF := g_all hD hS hA
  exact va_callv (va_runI (As := As) (rest := rest) F hM cw (ga_preS hK hG hP hD) rfl hn hsize hst (lv_room hW) hdg hf) hS (fun q _ h => hF q h) hF (fun u t H1 locs1 ht hvm hw hB hz1 hk1 hS1 => kk u H1 locs1 hw (by rw [← ht]; exact hB.1) (hB.2.2.weaken (fun _ q _ h => hF q.1 h)) hS1)
end GARR
section GMNB
variable {p : Program} {l : Launch} {e : Env} {R : Room} {s : State} {m : MethodId} {args : Array Value} {below : List Frame} {meth : Method} {c : Code} {H : Heap} {locs : List Loc} {cells slots : Nat} {Q : State → Prop}
variable {cc : ByteArray} {pc : Nat} {ls : Array Slot} {rest : List Value} {D : va_G} {A : Nat → Prop} {wl : va_W} {H0 : Heap} {cI cJ cG : ClassId}
set_option maxHeartbeats 4000000 in
theorem g_mna (hexec : p.tables.exec = Jvm.exec) (hb : c.code = cc) {own : String} {index : Nat} (hown : s.vm.findClass own = some m.cls) (hclink : (Cond.classLink own index "[[I").before args s = true) (hG : gArr cG cI s) (harr : (Cond.arrayClass .int).before args s = true)
    (hK : va_K D vwCl (tyl cI cJ cG) s) (hP : va_P D vwCl wl H) (hD : va_D A wl) (hS : va_S A H0 H locs) (hA : ∀ q, H0.size ≤ q → A q) {n k : Int32} (N M : Nat) (hn : n = nI N) (hk : k = nI M) (hN : N ≤ 1000) (hM : M ≤ 1000) (hcells : cells + (1 + N) ≤ R.cells) (hslots : slots + (N + N * M) ≤ R.slots) (hdg : decode cc pc = .ok (.multianewarray index 2, 4))
    (kk : ∀ (q : Nat) (r : Nat → Nat) (H1 : Heap) (locs1 : List Loc), va_P D vwCl ([(q, .inl (cG, N, .inr (.inr (.inr (.inr (fun i => if i < N then some (r i) else none))))))] ++ ((List.range N).map (fun i => (r i, .inl (cI, M, .inl (nf (fun _ => 0))))) ++ wl)) H1 → va_D A ([(q, .inl (cG, N, .inr (.inr (.inr (.inr (fun i => if i < N then some (r i) else none))))))] ++ ((List.range N).map (fun i => (r i, .inl (cI, M, .inl (nf (fun _ => 0))))) ++ wl)) → va_S A H0 H1 locs1 →
      W p l e R s m args below meth c H1 locs1 (cells + 1 + N) (slots + N + N * M) Q (F0 m (pc + 4) ls (.ref q :: rest))) : W p l e R s m args below meth c H locs cells slots Q (F0 m pc ls (.int k :: .int n :: rest)) := by
  subst hn; subst hk; subst hb
  intro T hT X
  have hpl : e.platform.magicAccessors = ({} : Platform).magicAccessors := by rw [X.admits.platform]
  obtain ⟨kA, hkA, hkindA⟩ := hG
  obtain ⟨comp', kC, cC, hcomp', hkC, hkindC⟩ := Cond.arrayClass_spec harr
  have g1 : s.vm.findClass ("[" ++ (FieldType.array .int).toString) = some cG := (hK.2 2 (cG, .array .int) rfl).2
  have g2 : s.vm.findClass ("[" ++ (FieldType.int).toString) = some cI := (hK.2 0 (cI, .int) rfl).2
  rw [show s.vm.findClass ("[" ++ (FieldType.int).toString) = some comp' from hcomp'] at g2
  have ec' : comp' = cI := Option.some.inj g2
  subst ec'
  have hnm : "[[I" = "[" ++ (FieldType.array .int).toString := by decide
  obtain ⟨c0, hfc0, hcl⟩ := Cond.classLink_spec hown hclink e.platform hpl
  rw [hnm] at hfc0
  have e0 : c0 = cG := Option.some.inj (hfc0.symm.trans g1)
  subst e0
  obtain ⟨hg₁, hwarm₁, hready₁⟩ := State.classEntry (e := e) X.warmed hcl
  generalize T.vm.noted m.cls index (.cls c0) = vm₁ at hg₁ hwarm₁ hready₁
  have hal : s.vm.Alike vm₁ := hwarm₁.alike
  obtain ⟨kA₁, hkA₁, heA⟩ := hal.2.2 _ _ hkA
  obtain ⟨kC₁, hkC₁, heC⟩ := hal.2.2 _ _ hkC
  have hkindA₁ : kA₁.kind = .array comp' (.array .int) := by rw [heA]; exact hkindA
  have hkindC₁ : kC₁.kind = .array cC .int := by rw [heC]; exact hkindC
  have X₁ := X.noted hwarm₁
  have hTh : (T.setVm vm₁).heap = H := hT
  obtain ⟨h1, h2, h3, h4, h5, h6, L, hL, X2⟩ := mnT_ok (cG := c0) (cI := comp') (N := N) (M := M) (vm1 := vm₁) rfl X₁ N (Nat.le_refl _)
  rw [hTh] at h1 h2 h3 h4
  have hw := mn_world (D := D) (A := A) (wl := wl) h1 h2 h3 h4 hP hD (fun q hq => hA q (Nat.le_trans hS.1 hq))
  have hS1 : va_S A H0 (mnT (T.setVm vm₁) c0 comp' N M N).heap (locs ++ L) := by
    refine ⟨by have := hS.1; omega, fun q a b => by rw [h4 q (Nat.lt_of_lt_of_le a hS.1)]; exact hS.2.1 q a b, fun q hq => ?_⟩
    rcases List.mem_append.mp hq with h | h
    · exact hS.2.2 q h
    · rw [hL q h, hTh]; exact hA _ hS.1
  obtain ⟨t, a1, b1⟩ := kk H.size (fun i => H.size + 1 + i) _ (locs ++ L) hw.1 hw.2 hS1 _ rfl X2
  refine ⟨t, ?_, b1⟩
  have hg0 : (F0 m pc ls (.int (nI M) :: .int (nI N) :: rest)).method = m := rfl
  jvm_step X.here [hexec, hdg]
  simp only [multianewarray.sem, wp_bind', Jvm.W.resolveClassAt_links (State.method?_setTop (F0 m pc ls (.int (nI M) :: .int (nI N) :: rest)) X.here.top) hg₁]
  rw [Jvm.W.popN, if_neg (by decide)]
  refine ⟨F0 m pc ls (.int (nI M) :: .int (nI N) :: rest), State.topJava?_setTop' (s := T.setVm vm₁) _ X.here.top, [.int (nI N), .int (nI M)], rest, rfl, rfl, ?_⟩
  simp only [List.mapM_cons, List.mapM_nil, wp_bind', wp_pure']
  have eS : ((T.setTop (F0 m pc ls (.int (nI M) :: .int (nI N) :: rest))).setVm vm₁).setTop { (F0 m pc ls (.int (nI M) :: .int (nI N) :: rest)) with stack := rest } = (T.setVm vm₁).setTop { (F0 m pc ls (.int (nI M) :: .int (nI N) :: rest)) with stack := rest } := by
    show ((T.setVm vm₁).setTop _).setTop _ = _
    rw [State.setTop_setTop]
  rw [eS]
  refine mk_grid (vm1 := vm₁) (T := T.setVm vm₁) rfl X₁ hkA₁ hkindA₁ hkC₁ hkindC₁ hN hM hcells hslots (fun d' acts' => ?_)
  simp only [wp_bind', Jvm.W.mark, Jvm.W.pushRef, State.topJava?_setTop' _ X2.here.top, Option.some.injEq, exists_eq_left', State.setTop_setTop, State.heap_setTop]
  intro acts
  simp [jvm, X2.here.top]
  rw [← hTh] at a1
  exact a1
end GMNB
/-- the rows as the pool holds them -/
theorem pr_new {cI : ClassId} {r : Nat → Nat} : (List.range 40).map (fun i => ((r i, .inl (cI, 8, .inl (nf (fun _ => 0)))) : Nat × va_E)) = pr cI r (fun _ _ => 0) := rfl
theorem pq_new {cI : ClassId} {r : Nat → Nat} : (List.range 40).map (fun i => ((r i, .inl (cI, 7, .inl (nf (fun _ => 0)))) : Nat × va_E)) = pq cI r (fun _ _ => 0) := rfl
theorem og_new {r : Nat → Nat} : (fun i => if i < 40 then some (r i) else none) = og r := rfl

theorem mv_P {D : va_G} {cl : List vw_C} {x : Nat × va_E} {p wl : va_W} {H : Heap} (h : va_P D cl ([x] ++ (p ++ wl)) H) : va_P D cl ((x :: wl) ++ p) H := by
  rw [← List.append_assoc] at h
  exact h.swap
theorem mv_D {A : Nat → Prop} {x : Nat × va_E} {p wl : va_W} (h : va_D A ([x] ++ (p ++ wl))) : va_D A ((x :: wl) ++ p) := by
  rw [← List.append_assoc] at h
  exact h.swap
theorem mf_P {D : va_G} {cl : List vw_C} {X R p q : va_W} {H : Heap} (h : va_P D cl (X ++ ((R ++ p) ++ q)) H) : va_P D cl (X ++ (p ++ (q ++ R))) H := by
  rw [List.append_assoc, ← List.append_assoc] at h
  have h1 := h.swap
  rw [List.append_assoc, List.append_assoc] at h1
  exact h1
theorem mf_D {A : Nat → Prop} {X R p q : va_W} (h : va_D A (X ++ ((R ++ p) ++ q))) : va_D A (X ++ (p ++ (q ++ R))) := by
  rw [List.append_assoc, ← List.append_assoc] at h
  have h1 := h.swap
  rw [List.append_assoc, List.append_assoc] at h1
  exact h1
