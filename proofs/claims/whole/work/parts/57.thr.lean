/-! THROWS: a contract of a call that throws; the words that it rests on -/
abbrev tNames : List String := ["java/lang/IndexOutOfBoundsException", "java/lang/RuntimeException", "java/lang/Exception"]
abbrev thrA : List Cond := Bundle.ownAtoms RX3 68 RJx00060 tNames
def thrG : List Cond := thrA.filter goodWord
def thrK : Cond → Bool
  | .declares _ => true
  | .castable _ _ => true
  | .laysStatic _ _ _ => true
  | .isRef (.static _ _ _) => true
  | _ => false
def thrB : List Cond := thrA.filter (fun w => !goodWord w)
theorem thrB_k : ∀ w ∈ thrB, thrK w = true := by decide +kernel
theorem thrG_g : ∀ w ∈ thrG, goodWord w = true := fun w h => (List.mem_filter.mp h).2
theorem thr_all {w : Cond} (h : w ∈ thrA) : w ∈ thrG ∨ w ∈ thrB := by
  cases hg : goodWord w with
  | true => exact Or.inl (List.mem_filter.mpr ⟨h, hg⟩)
  | false => exact Or.inr (List.mem_filter.mpr ⟨h, by rw [hg]; rfl⟩)
/-- a word of the bad kinds stays true where the tables are alike and the old cells stay -/
theorem thr_move {w : Cond} (hk : thrK w = true) {a a' : Array Value} {s U : State} (hal : s.vm.Alike U.vm) (hh : ∀ q, q < s.heap.size → U.heap[q]? = s.heap[q]?) (h : w.before a s = true) : w.before a' U = true := by
  cases w with
  | declares x => exact va_tabs (u := s.setVm U.vm) rfl rfl (by rw [Cond.declares_setVm hal]; exact h)
  | castable x y => exact va_tabs (u := s.setVm U.vm) rfl rfl (by rw [Cond.castable_setVm hal]; exact h)
  | laysStatic o n d =>
    obtain ⟨c, k, i, f, ad, cell, hc, hi, hst, ha, hcell, hs, hcls, hlt, hty⟩ := Cond.laysStatic_spec h
    obtain ⟨k', hi', he⟩ := State.fieldFound?_setVm hal hi
    have hi2 : U.fieldFound? o n d = some (c, k', i, f) := hi'
    have hc2 : U.vm.findClass o = some c := by rw [hal.findClass]; exact hc
    have hcell2 : U.heap[ad]? = some cell := by rw [hh ad (Array.getElem?_eq_some_iff.mp hcell).1]; exact hcell
    have ha2 : k'.statics = some ad := by rw [he]; exact ha
    have hty2 : k'.staticTypes[f.slot]? = some f.type := by rw [he]; exact hty
    simp [Cond.before, Cond.holds, Cond.value, hc2, hi2, ha2, hcell2, hst, hs, hcls, hlt, hty2]
  | isRef t =>
    cases t with
    | static o n d =>
      cases hv : (Term.static o n d).eval a s none [] s with
      | none => simp [Cond.before, Cond.holds, Cond.value, hv] at h
      | some v =>
        have h1 := Term.static_setVm hal hv
        cases hi : (s.setVm U.vm).fieldFound? o n d with
        | none => simp [Term.eval, State.fieldNamed?, hi] at h1
        | some x =>
          obtain ⟨c, k, i, f⟩ := x
          obtain ⟨hst, ad, cell, ha, hcell, -, hslot⟩ := Term.static_spec hi h1
          have hs : cell.vm.isStatics = true := by
            simp only [Term.eval, State.fieldNamed?, hi, Option.bind_eq_bind, Option.bind_some, hst, beq_self_eq_true, if_true, Option.pure_def, ha, hcell] at h1
            by_cases h' : cell.vm.isStatics = true
            · exact h'
            · simp [h'] at h1
          have hcell0 : s.heap[ad]? = some cell := hcell
          have hcell2 : U.heap[ad]? = some cell := by rw [hh ad (Array.getElem?_eq_some_iff.mp hcell0).1]; exact hcell0
          have hi2 : U.fieldFound? o n d = some (c, k, i, f) := hi
          have h2 : (Term.static o n d).eval a' U none [] U = some v := Term.static_eval hi2 hst ha hcell2 hs hslot
          simp only [Cond.before, Cond.holds, Cond.value, hv] at h
          simp only [Cond.before, Cond.holds, Cond.value, h2]
          exact h
    | _ => cases hk
  | _ => cases hk
/-- what a throw rests on, of tables and heap -/
def gThr (sx : Nat) (U : State) : Prop := (∀ w ∈ thrB, w.before #[] U = true) ∧ vk_R RX3 66 "there is no such channel" sx U
theorem gThr.moved {sx : Nat} {s U : State} (hW : s.WarmedH U.vm) (hh : ∀ q, q < s.heap.size → U.heap[q]? = s.heap[q]?) (h : gThr sx s) : gThr sx U :=
  ⟨fun w hw => thr_move (thrB_k w hw) hW.alike hh (h.1 w hw), h.2.warm hW⟩
/-- a call that throws: from old cells nothing has changed -/
def MetT (l : Launch) (y : MethodName) (ws : List Cond) (rm : Room) (Pc : Array Value → State → Prop) (Qc : Array Value → State → Addr → State → Prop) (mc ms : Nat) : Prop :=
  MetFree l y (headSpec ws rm) Pc (fun _ _ _ _ _ => True) (fun a st o t => ∃ q, o = .threw q ∧ Qc a st q t ∧ st.WarmedH t.vm ∧ ∃ L, st.sameButNew ({ t with vm := st.vm } : State) L mc ms ∧ ∀ x ∈ L, st.heap.size ≤ x.base)
def MQT (below : List Frame) (Qc : Array Value → State → Addr → State → Prop) (a : Array Value) (s : State) (mc ms : Nat) : State → Prop := fun t =>
  ∃ q, t.status = .running ∧ Ended t below (.threw q) ∧ Qc a s q t ∧ s.WarmedH t.vm ∧ ∃ L, s.sameButNew ({ t with vm := s.vm } : State) L mc ms ∧ ∀ x ∈ L, s.heap.size ≤ x.base
theorem MetT.ofW {l : Launch} {y : MethodName} {ws ws' : List Cond} {rm : Room} {Pc : Array Value → State → Prop} {Qc : Array Value → State → Addr → State → Prop} {mc ms : Nat} {cc : ByteArray} {maxL : Nat} {ret : Option FieldType}
    (hy : plainName y.cls = true) (hw : ws = Cond.code y cc maxL ret :: ws')
    (body : ∀ p e s m args below meth c s₁, BodyLoose p l y (headSpec ws rm) cc maxL ret e s m args below meth c s₁ → c.maxLocals = maxL → Pc args s →
      W p l e (headSpec ws rm).room s m args below meth c s.heap [] 0 0 (MQT below Qc args s mc ms) (entryFrame m args maxL)) : MetT l y ws rm Pc Qc mc ms := by
  refine MetFree.of_bodyS (code := cc) (maxLocals := maxL) (ret := ret) hy ?_ ?_
  · intro args s m h hn
    obtain ⟨meth, c, h1, h2, h3, h4, h5, h6, -, -⟩ := Cond.code_spec hn (atoms_spec (ws := ws) h _ (by rw [hw]; exact List.mem_cons_self))
    exact ⟨meth, c, h1, h2, h3, h4, h5, h6⟩
  · intro p e s m args below meth c s₁ B hml hP _
    have hh0 : s₁.heap = s.heap := by rw [B.state]; rfl
    obtain ⟨t, a1, q, b1, b2, b3, b4, b5⟩ := body p e s m args below meth c s₁ B hml hP s₁ hh0 (Stand.of_body B)
    exact ⟨t, .threw q, a1, b1, b2, q, rfl, b3, b4, b5⟩
section GTHR
variable {p : Program} {l : Launch} {e : Env} {R : Room} {s : State} {m : MethodId} {args : Array Value} {below : List Frame} {meth : Method} {c : Code} {locs : List Loc} {cells slots : Nat}
theorem backT {y : MethodName} {ws : List Cond} {rm : Room} {Pc : Array Value → State → Prop} {Qc : Array Value → State → Addr → State → Prop} {mc ms WW maxL len : Nat} {bytes : ByteArray} {ret : Option FieldType} {U : State} {g : JFrame} {ig : Instr} {mk : MethodId} {a : Array Value}
    (hM : MetT l y ws rm Pc Qc mc ms) (hblind : FrameBlind Pc) (hrc : rm.cells = mc) (hrs : rm.slots = ms) (hframes : rm.frames + 1 ≤ R.frames) (hlocals : WW + (maxL + 11) + rm.locals ≤ R.locals)
    (hws : ∀ w ∈ ws, ∀ a' V, s.WarmedH V.vm → w.before a' V = true) (hcode : Cond.code y bytes maxL ret ∈ ws) (hinit : ∀ a' V, s.WarmedH V.vm → (Cond.initialized y.cls).before a' V = true)
    (X : Stand p l e R s m args below meth c U locs cells slots) (hg : g.method = m) (hsize : g.locals.size = c.maxLocals) (hdg : decode c.code g.pc = .ok (ig, len)) (hW : 2 * g.monitorRoom + (g.stack.map fun v => v.category).sum ≤ WW)
    (hn : U.methodNamed? y = some mk) (hc : cells + mc ≤ R.cells) (hs : slots + ms ≤ R.slots) (hp : Pc a U) :
    ∃ (q : Addr) (t T' : State) (L : List Loc), Stand p l e R s m args below meth c T' (locs ++ L) (cells + mc) (slots + ms) ∧ T'.heap = t.heap ∧ T'.vm = t.vm ∧ Qc a (U.calling g mk a) q t ∧ (∀ x ∈ L, U.heap.size ≤ x.base) ∧
      Steps p.tables e below (doInvoke e (U.setTop g) [] mk a).1 ((T'.setTop g).pushFrame (.throwing q)) := by
  have h1 : (headSpec ws rm).pre.before a U = true := atoms_intro fun w hw => hws w hw _ _ X.warmed
  have h2 := hws _ hcode a U X.warmed
  have h3 := hinit a U X.warmed
  obtain ⟨methY, cY, hmY, hcY, -, hlY, -, -, -, -⟩ := Cond.code_spec hn h2
  obtain ⟨kY, hkY, -⟩ := className_of_methodNamed hn
  have hinitY : kY.init = .initialized := Cond.initialized_spec (findClass_of_methodNamed hn) hkY h3
  have h : At U g.method c below := by rw [hg]; exact X.here
  have happ : (headSpec ws rm).appliesLoose y e.platform (U.calling g mk a) = true :=
    Spec.appliesLoose_calling (g := g) h hdg hn hkY hinitY
      (X.room_calling (g := g) (R' := (headSpec ws rm).room) hsize hmY hcY hframes (by rw [hlY]; show _ + _ + rm.locals ≤ _; omega) (by show cells + rm.cells ≤ _; rw [hrc]; exact hc) (by show slots + rm.slots ≤ _; rw [hrs]; exact hs)) h1
  obtain ⟨mid, hmid⟩ := h.above
  have hfr : (U.setTop g).frames = (.java g :: mid) ++ below := by rw [State.frames_setTop' g h.top, hmid]; rfl
  obtain ⟨o, s₂, hsteps, -, hend, hq⟩ := Steps.callFree hM p X.admits X.cas X.clock (acts := []) hfr happ (hblind _ _ _ _ hp) trivial
  rw [State.frames_setTop' g h.top] at hend
  obtain ⟨q, rfl, hQ, hW₂, L, hsb, hL⟩ := hq
  have hsb' : (U.calling g mk a).sameButNew ({ s₂ with vm := (U.calling g mk a).vm } : State) L mc ms := hsb
  obtain ⟨e2, q2, q3, q4, q5, q6⟩ := hsb'
  have e3 : s₂ = ({ (U.calling g mk a).setFrames s₂.frames with heap := s₂.heap, slotsUsed := s₂.slotsUsed } : State).setVm s₂.vm := by
    have : s₂ = ({ s₂ with vm := (U.calling g mk a).vm } : State).setVm s₂.vm := rfl
    rw [e2] at this
    exact this
  have hW' : U.WarmedH s₂.vm := hW₂
  obtain ⟨g₀, hg0⟩ := Option.isSome_iff_exists.mp h.top
  obtain ⟨r, hr⟩ := State.topJava?_eq_some.mp hg0
  have hf₂ : s₂.frames = .throwing q :: (.java g :: U.frames.tail) := hend
  have hr' : (({ U with heap := s₂.heap, slotsUsed := s₂.slotsUsed } : State).setVm s₂.vm).frames = .java g₀ :: r := hr
  have hcur := State.cur_lt_of_frames hr'
  have hs₂ : s₂ = ((({ U with heap := s₂.heap, slotsUsed := s₂.slotsUsed } : State).setVm s₂.vm).setTop g).pushFrame (.throwing q) := by
    refine e3.trans ?_
    rw [hf₂, State.calling_eq h.top, State.setFrames_setFrames, State.setTop_of_frames _ hr', State.pushFrame, State.frames_setFrames _ hcur, State.setFrames_setFrames, hr]
    rfl
  have hsame : U.sameButNew ({ U with heap := s₂.heap, slotsUsed := s₂.slotsUsed } : State) L mc ms := by
    refine ⟨?_, q2, q3, q4, q5, q6⟩
    obtain ⟨t, ht, -⟩ := State.frames_cons hr
    show ({ U with heap := s₂.heap, slotsUsed := s₂.slotsUsed } : State) = { U.setFrames U.frames with heap := s₂.heap, slotsUsed := s₂.slotsUsed }
    rw [State.setFrames_self ht]
  subst hg
  refine ⟨q, s₂, (({ U with heap := s₂.heap, slotsUsed := s₂.slotsUsed } : State).setVm s₂.vm), L,
    ⟨X.admits, X.cas, X.clock, X.frames, X.room, X.hears, X.method, X.code, (X.here.setHeapUsed s₂.heap s₂.slotsUsed).setVm hW'.alike, X.tail, State.WarmedH.trans X.warmed hW', X.limits, X.bytes, X.same.trans (hsame.setVm s.vm)⟩, rfl, rfl, hQ, hL, ?_⟩
  rw [← hs₂]
  exact hsteps
end GTHR
