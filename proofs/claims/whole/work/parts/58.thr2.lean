/-! white, where it throws -/
abbrev wsX3_whiteT : List Cond := wsX3_white ++ thrG
abbrev rX3_whiteT : Room := { frames := 7, cells := 1, slots := 6, locals := 100 }
theorem goodIn_ext {big ws G : List Cond} (h : GoodIn big ws) : GoodIn (big ++ G) ws := fun w hw => ⟨List.mem_append_left _ (h w hw).1, (h w hw).2⟩
theorem goodIn_ext2 {big ws G : List Cond} (h : GoodIn big ws) (hG : ∀ w ∈ G, goodWord w = true) : GoodIn (big ++ G) (ws ++ G) := fun w hw => by
  rcases List.mem_append.mp hw with h1 | h1
  · exact ⟨List.mem_append_left _ (h w h1).1, (h w h1).2⟩
  · exact ⟨List.mem_append_right _ h1, good_of_word (hG w h1)⟩
def tQ : Array Value → State → Addr → State → Prop := fun _ st q t => st.heap.size ≤ q ∧ (∃ ce : Cell, t.heap[q]? = some ce ∧ ce.vm = .none ∧ st.vm.findClass RJx00060 = some ce.cls) ∧ (∀ i, i < st.heap.size → t.heap[i]? = st.heap[i]?) ∧ st.heap.size ≤ t.heap.size
theorem sb_old {s U : State} {locs : List Loc} {k n : Nat} (h : s.sameButNew ({ U with vm := s.vm } : State) locs k n) (hl : ∀ x ∈ locs, s.heap.size ≤ x.base) : (∀ i, i < s.heap.size → U.heap[i]? = s.heap[i]?) ∧ s.heap.size ≤ U.heap.size := by
  obtain ⟨-, h1, -, -, -, h2⟩ := h
  refine ⟨fun i hi => ?_, h1⟩
  obtain ⟨c', e1, e2, e3, e4⟩ := h2 i s.heap[i] (Array.getElem?_eq_getElem hi)
  have e1' : U.heap[i]? = some c' := e1
  rw [e1', Array.getElem?_eq_getElem hi]
  have hs : c'.slots = s.heap[i].slots := by
    apply Array.ext_getElem?
    intro j
    exact e4 j (fun hm => absurd (hl _ hm) (Nat.not_le.mpr hi))
  rw [e2, hs]
theorem va_P0 {D : va_G} {cl : List vw_C} {H : Heap} : va_P D cl [] H := fun k x h => by cases h
theorem va_D0 {A : Nat → Prop} : va_D A [] := ⟨fun _ _ _ _ h _ _ => (by cases h), fun _ _ h => (by cases h)⟩
abbrev tP (D : va_G) (cI cJ cG : ClassId) (h_ sx : Nat) (x y : Int32) : Array Value → State → Prop := fun a U => a = ([.ref h_, .int x, .int y] : List Value).toArray ∧ va_K D vwCl (tyl cI cJ cG) U ∧ gThr sx U
theorem tP_blind {D : va_G} {cI cJ cG : ClassId} {h_ sx : Nat} {x y : Int32} : FrameBlind (tP D cI cJ cG h_ sx x y) := fun a U g mk q => by
  obtain ⟨q0, q1, q2⟩ := q
  exact ⟨q0, va_K.moved (u := U) (U := U.calling g mk a) (Vm.Alike.refl U.vm) q1, ⟨fun w hw => thr_move (s := U) (U := U.calling g mk a) (thrB_k w hw) (Vm.Alike.refl U.vm) (fun _ _ => rfl) (q2.1 w hw), vk_R.same (u := U) rfl q2.2⟩⟩
set_option maxHeartbeats 4000000 in
set_option maxRecDepth 100000 in
theorem t_X3_white (l : Launch) (hfl : l.flags = pinnedFlags ++ [noTraceFlag]) (D : va_G) (cI cJ cG : ClassId) (h_ sx : Nat) (x y : Int32) (h8 : inB x 8 = false) : MetT l yX3_white wsX3_whiteT rX3_whiteT (tP D cI cJ cG h_ sx x y) tQ 1 6 := by
  refine MetT.ofW (cc := cX3_white) (maxL := 3) (ret := some .boolean) (by decide) rfl ?_
  intro p e s m args below meth c s₁ B hml hv
  obtain ⟨rfl, hK, hT⟩ := hv
  have hts := atoms_spec (ws := wsX3_whiteT) B.pre
  have hown : s.vm.findClass RX3 = some m.cls := findClass_of_methodNamed B.named
  have hx := B.exec
  have hb := B.bytes
  have hlocks := B.notSynchronized
  have hnoh : c.exceptionTable.isEmpty = true := B.noHandlers (hts _ List.mem_cons_self)
  have hl := lv_entry ([.ref h_, .int x, .int y] : List Value) (n := 3) (Nat.le_of_ble_eq_true rfl)
  rw [lg_entry_eq]
  have body : ∀ ls : Array Slot, lv_has ls 3 [(0, .ref h_), (1, .int x), (2, .int y)] → W p l e (headSpec wsX3_whiteT rX3_whiteT).room s m ([.ref h_, .int x, .int y] : List Value).toArray below meth c s.heap [] 0 0 (MQT below tQ ([.ref h_, .int x, .int y] : List Value).toArray s 1 6) (F0 m 0 ls []) := by
    intro ls hl
    refine lv_iload_n hx hb dX3_white_0 rfl (lv_at hl 1 rfl) ?_
    refine gc_Si (As := [.int x]) (rest := []) (A := fun q => s.heap.size ≤ q) (H0 := s.heap) ⟨hx, hb, hml, hown, hts⟩ (c_X3_isChannel l D cI cJ cG s.heap.size [] x) (va_cwS 1 hts (goodIn_ext gX3_white_X3_isChannel) rfl rfl rfl (by decide +kernel) ⟨Nat.le_of_ble_eq_true rfl, Nat.le_of_ble_eq_true rfl⟩) hK va_P0 va_D0 va_S.rf (fun q h => h) rfl hl.1 rfl (Nat.le_of_ble_eq_true rfl) dX3_white_1 ⟨Nat.le_of_ble_eq_true rfl, Nat.le_of_ble_eq_true rfl⟩ (fun r1 u1 H locs h1 hP hD hS => ?_)
    subst h1
    refine lv_if_ne (tgt := 17) hx hb dX3_white_4 (by decide) (fun c4 => ?_) (fun c4 => ?_)
    · exact absurd (bI_n0.mp c4) (by rw [h8]; decide)
    · refine W.newcK hx hb hown (hts (.classLink RX3 64 RJx00060) (by decide +kernel)) (hts (.instantiable RJx00060 6) (by decide +kernel)) (hts (.initialized RJx00060) (by decide +kernel)) rfl dX3_white_7 (Nat.le_of_ble_eq_true rfl) (Nat.le_of_ble_eq_true rfl) (hK.1 0 _ rfl).2.1 rfl (fun H2 kC hkC e1 z1 o1 => ?_)
      refine W.eq (g2 := F0 m 10 ls [.ref H.size]) rfl ?_
      refine lv_dup hx hb dX3_white_10 rfl ?_
      refine va_ldcS hx hb hown hT.2 dX3_white_11 ?_
      intro T hTH X
      have htr := Launch.traces_off hfl X.admits
      obtain ⟨U, hst, hrun, hend, hWU, hsame, ce, hce, hoc⟩ := X.ctorThrowS hx htr (own := RX3) (cls := RJx00060) (names := tNames) (ic := 68) hown (by decide) (by decide)
        (fun w hw => by
          rcases thr_all hw with h | h
          · exact hts w (List.mem_append_right _ h)
          · exact thr_move (thrB_k w h) (Vm.Alike.refl _) (fun _ _ => rfl) (hT.1 w h))
        (fun z hz cell hc => absurd (Array.getElem?_eq_some_iff.mp hc).1 (Nat.not_lt.mpr (hS.2.2 z hz)))
        (a := H.size) (hK.1 0 _ rfl).2.1 hkC (by rw [hTH]; exact e1) hS.1 (msg := .ref sx) rfl (g := F0 m 13 ls [.ref sx, .ref H.size, .ref H.size]) rfl (hl.1.trans hml.symm) rfl rfl (rest := []) rfl (by rw [hb]; exact dX3_white_13) (by rw [hb]; exact dX3_white_16)
        (fun z hz => by
          rw [Array.isEmpty_iff.mp hnoh] at hz
          cases hz)
        (Nat.le_of_ble_eq_true rfl) (Nat.le_of_ble_eq_true rfl) hlocks
      have hold := sb_old hsame hS.2.2
      exact ⟨U, hst, H.size, hrun, hend, ⟨hS.1, ⟨ce, hce, hoc.vm, hoc.cls⟩, hold.1, hold.2⟩, hWU, locs, hsame, hS.2.2⟩
  exact body _ hl
/-! a class of a handler, cold or warm -/
section GCATCH
variable {p : Program} {l : Launch} {e : Env} {R : Room} {s : State} {m : MethodId} {args : Array Value} {below : List Frame} {meth : Method} {c : Code} {locs : List Loc} {cells slots : Nat}
theorem asg_self {vm : Vm} {k : ClassId} : vm.assignable k k = true := by
  show vm.assignableAux (255 + 1) k k = true
  rw [Vm.assignableAux, Bool.or_eq_true, beq_iff_eq]
  exact Or.inl rfl
theorem go_cold {E : CtlPost} {d : Bool} {acts : List Action} {S : State} {f : JFrame} {a : Addr} {Q : Handler → Pre} {x : ExceptionTableEntry} {t : List ExceptionTableEntry} {k : ClassId} {cell : Cell} {vm' : Vm} (hx : covers x f.pc = true) (h0 : x.catchType ≠ 0) (hg : (Jvm.resolveClass f.method.cls x.catchType).Gives e.toSetting S.vm (.ok k) vm') (hsz : vm'.classes.size ≤ S.vm.classes.size)
    (hcell : S.heap[a]? = some cell) (hobj : ∀ k, cell.vm ≠ .statics k) (hk : ∃ z, vm'.classes[cell.cls]? = some z) (hc : ∃ z, vm'.classes[k]? = some z) (hfit : vm'.assignable cell.cls k = true) :
    wp (findHandler.go f a (x :: t)) Q E e d acts S ↔ Q (.found x.handlerPc) d acts (S.setVm vm') := by
  simp only [covers] at hx
  obtain ⟨ha, ht⟩ := hg.op (op := VmOp.resolveClass f.method.cls x.catchType) rfl
  have hcell' : (S.setVm vm').heap[a]? = some cell := hcell
  simp [findHandler.go, hx, h0, ha, ht, hsz, hcell, hcell', hobj, hk, hc, hfit, VmOp.dirties, VmOp.acts]
theorem caughtC {tb : Tables} {S target : State} {g : JFrame} {a : Addr} {pc : Nat} {vm' : Vm} (h : At S g.method c below)
    (hfind : ∀ (Q : Handler → Pre) (E : CtlPost) (d : Bool) (acts : List Action), wp (findHandler g a) Q E e d acts ((S.setTop g).pushFrame (.throwing a)) ↔ Q (.found pc) d acts (((S.setTop g).pushFrame (.throwing a)).setVm vm'))
    (hrest : Steps tb e below ((S.setVm vm').setTop { g with pc := pc, stack := [.ref a] }) target) : Steps tb e below ((S.setTop g).pushFrame (.throwing a)) target := by
  obtain ⟨hgo, hw⟩ := h.throwing a
  refine Steps.head hgo hw ?_
  rw [stepThread_throwing (frames_entered h.top _)]
  have hst : ∀ r, (stepThrowing e ((S.setTop g).pushFrame (.throwing a)) a (.java g :: r)).Is ((((S.setTop g).pushFrame (.throwing a)).setVm vm').setFrames (.java { g with pc := pc, stack := [.ref a] } :: r)) [] := by
    intro r
    simp only [stepThrowing, searchFrame, vmDo]
    generalize hr : Sem.go _ e false [] _ = res
    obtain ⟨as, rfl, ha⟩ := Sem.eq_ok_of hr (a := Handler.found pc) (s' := ((S.setTop g).pushFrame (.throwing a)).setVm vm') (acts' := []) (by simp [hfind _ _ _ _])
    exact ⟨rfl, ha⟩
  rw [(hst _).1]
  obtain ⟨g₀, hg⟩ := Option.isSome_iff_exists.mp h.top
  obtain ⟨r, hr⟩ := State.topJava?_eq_some.mp hg
  have hr' : (S.setVm vm').frames = .java g₀ :: r := hr
  rw [State.setTop_of_frames _ hr'] at hrest
  have e1 : (((S.setTop g).pushFrame (.throwing a)).setVm vm').setFrames (.java { g with pc := pc, stack := [.ref a] } :: S.frames.tail) = (S.setVm vm').setFrames (.java { g with pc := pc, stack := [.ref a] } :: r) := by
    show (((S.setTop g).pushFrame (.throwing a)).setFrames (.java { g with pc := pc, stack := [.ref a] } :: S.frames.tail)).setVm vm' = _
    rw [State.pushFrame, State.setFrames_setFrames, State.setTop_of_frames _ hr, State.setFrames_setFrames, hr]
    rfl
  rw [e1]
  exact hrest
end GCATCH
