/-! NEW int[N][M]: a row of mine, by one invariant through the machine's own loop -/
theorem mk_row {E : CtlPost} {e : Env} {d : Bool} {acts : List Action} {s : State} {c comp : ClassId} {k : Class} {ty : FieldType} {len : Nat} {z : Value} (hk : s.vm.classes[c]? = some k) (hkind : k.kind = .array comp ty) (hl : ¬ len > e.platform.arrayLengthLimit) (hh : ¬ len * componentBytes ty > e.platform.maxHeapBytes) (hf : fits ty z = true) (hd : z.isDefault = true) {Q : Addr → Pre}
    (h1 : s.heap.size < e.platform.maxCells) (h2 : s.slotsUsed + len ≤ e.platform.maxSlots) (hq : Q s.heap.size d acts (s.pushCell (arrV c len (fun _ => z)))) : wp (Jvm.newArray c len z) Q E e d acts s := by
  rw [← arrV_new] at hq
  have hfits : ∀ i v, (Array.replicate len z)[i]? = some v → s.fitsSlot c .none i v = true := fun i v hv => by
    rw [Array.getElem?_replicate] at hv
    split at hv
    · cases hv; simp [State.fitsSlot, State.slotType?, hk, hkind, hf]
    · cases hv
  have hda : allocActs (Array.replicate len z) s.heap.size acts = acts := by
    unfold allocActs
    rw [if_pos (by rw [Array.all_replicate]; split <;> simp [hd])]
  simp only [Jvm.newArray, Jvm.arrayFits, wp_bind', Jvm.W.ask, Jvm.W.ite, hl, if_false, wp_pure', Jvm.W.theClass, hk, hkind, hh, Jvm.W.alloc, Jvm.W.stop, Option.some.injEq, exists_eq_left', Array.size_replicate, hda]
  rw [if_neg (by omega)]
  exact ⟨h1, h2, hfits, hq⟩
section GMNA
variable {p : Program} {l : Launch} {e : Env} {R : Room} {s : State} {m : MethodId} {args : Array Value} {below : List Frame} {meth : Method} {c : Code} {H : Heap} {locs : List Loc} {cells slots : Nat} {Q : State → Prop}
variable {cc : ByteArray} {pc : Nat} {ls : Array Slot} {rest : List Value} {D : va_G} {A : Nat → Prop} {wl : va_W} {H0 : Heap} {cI cJ cG : ClassId}
/-- behind i rows: the outer one holds them, each is of zeros, what was there before is as it was -/
def mnI (p : Program) (l : Launch) (e : Env) (R : Room) (s : State) (m : MethodId) (args : Array Value) (below : List Frame) (meth : Method) (c : Code) (T0 : State) (vm1 : Vm) (cG cI : ClassId) (N M : Nat) (locs : List Loc) (cells slots : Nat) (i : Nat) (T : State) : Prop :=
  T.heap.size = T0.heap.size + 1 + i ∧ T.heap[T0.heap.size]? = some (arrV cG N (fun j => va_rf (if j < i then some (T0.heap.size + 1 + j) else none))) ∧ (∀ j, j < i → T.heap[T0.heap.size + 1 + j]? = some (arrV cI M (fun _ => .int 0))) ∧ (∀ a, a < T0.heap.size → T.heap[a]? = T0.heap[a]?) ∧ T.vm = vm1 ∧ T.slotsUsed = T0.slotsUsed + N + i * M ∧
    ∃ L : List Loc, (∀ q ∈ L, q.base = T0.heap.size) ∧ Stand p l e R s m args below meth c T (locs ++ L) (cells + 1 + i) (slots + N + i * M)
/-- the states themselves -/
def mnT (T0 : State) (cG cI : ClassId) (N M : Nat) : Nat → State
  | 0 => T0.pushCell (arrV cG N (fun _ => .null))
  | i + 1 => ((mnT T0 cG cI N M i).pushCell (arrV cI M (fun _ => .int 0))).setCell T0.heap.size ((arrV cG N (fun j => va_rf (if j < i then some (T0.heap.size + 1 + j) else none))).setSlot i (.ref (mnT T0 cG cI N M i).heap.size))
theorem mnI_0 {T : State} {vm1 : Vm} {N M : Nat} (hvm : T.vm = vm1) (X : Stand p l e R s m args below meth c T locs cells slots) : mnI p l e R s m args below meth c T vm1 cG cI N M locs cells slots 0 (T.pushCell (arrV cG N (fun _ => .null))) := by
  refine ⟨by simp, ?_, fun j hj => absurd hj (Nat.not_lt_zero _), fun a ha => State.heap_pushCell_of_lt _ _ ha, hvm, ?_, [], (fun q hq => by cases hq), ?_⟩
  · rw [State.heap_pushCell_size]
    refine congrArg some (congrArg (arrV cG N) (funext fun j => ?_))
    simp [va_rf]
  · simp [arrV_size]
  · have h := X.pushed (arrV cG N (fun _ => .null))
    rw [arrV_size] at h
    simpa using h
theorem mnI_s {T T0 : State} {vm1 : Vm} {N M i : Nat} (hi : i < N) (h : mnI p l e R s m args below meth c T0 vm1 cG cI N M locs cells slots i T) :
    mnI p l e R s m args below meth c T0 vm1 cG cI N M locs cells slots (i + 1) ((T.pushCell (arrV cI M (fun _ => .int 0))).setCell T0.heap.size ((arrV cG N (fun j => va_rf (if j < i then some (T0.heap.size + 1 + j) else none))).setSlot i (.ref T.heap.size))) := by
  obtain ⟨h1, h2, h3, h4, h5, h6, L, hL, X⟩ := h
  have hlt : T0.heap.size < T.heap.size := by omega
  have hc : (T.pushCell (arrV cI M (fun _ => .int 0))).heap[T0.heap.size]? = some (arrV cG N (fun j => va_rf (if j < i then some (T0.heap.size + 1 + j) else none))) := by rw [State.heap_pushCell_of_lt (h := hlt)]; exact h2
  have hx := (X.pushed (arrV cI M (fun _ => .int 0))).stored hc i (.ref T.heap.size)
  rw [arrV_size] at hx
  refine ⟨?_, ?_, fun j hj => ?_, fun a ha => ?_, h5, ?_, L ++ [⟨T0.heap.size, i⟩], fun q hq => ?_, ?_⟩
  · simp only [State.heap_setCell, Array.size_setIfInBounds, State.heap_size_pushCell]; omega
  · rw [State.heap_setCell, Array.getElem?_setIfInBounds, if_pos rfl, if_pos (by rw [State.heap_size_pushCell]; omega), arrV_store]
    refine congrArg some (congrArg (arrV cG N) (funext fun j => ?_))
    rw [h1]
    by_cases e : j = i
    · subst e; simp [updV, va_rf]
    · by_cases h : j < i
      · simp [updV, e, h, Nat.lt_succ_of_lt h]
      · simp [updV, e, h, show ¬ j < i + 1 by omega]
  · rw [State.heap_setCell, Array.getElem?_setIfInBounds, if_neg (by omega)]
    by_cases e : j = i
    · subst e; rw [← h1]; exact State.heap_pushCell_size _ _
    · rw [State.heap_pushCell_of_lt _ _ (show T0.heap.size + 1 + j < T.heap.size by omega)]; exact h3 j (by omega)
  · rw [State.heap_setCell, Array.getElem?_setIfInBounds, if_neg (by omega), State.heap_pushCell_of_lt _ _ (show a < T.heap.size by omega)]
    exact h4 a ha
  · simp only [State.slotsUsed_setCell, State.slotsUsed_pushCell, arrV_size, h6, Nat.succ_mul]; omega
  · rcases List.mem_append.mp hq with h | h
    · exact hL q h
    · rw [List.mem_singleton] at h; subst h; rfl
  · rw [← List.append_assoc, show slots + N + (i + 1) * M = slots + N + i * M + M by rw [Nat.succ_mul]; omega]
    exact hx
theorem mnT_ok {T : State} {vm1 : Vm} {N M : Nat} (hvm : T.vm = vm1) (X : Stand p l e R s m args below meth c T locs cells slots) : ∀ i, i ≤ N → mnI p l e R s m args below meth c T vm1 cG cI N M locs cells slots i (mnT T cG cI N M i)
  | 0, _ => mnI_0 hvm X
  | i + 1, hi => mnI_s (by omega) (mnT_ok hvm X i (by omega))
set_option maxHeartbeats 4000000 in
theorem mk_grid {T : State} {vm1 : Vm} {g : JFrame} {E : CtlPost} {d : Bool} {acts : List Action} {kG kI : Class} {cC : ClassId} {N M : Nat} (hvm : T.vm = vm1) (X : Stand p l e R s m args below meth c T locs cells slots) (hG : vm1.classes[cG]? = some kG) (hGk : kG.kind = .array cI (.array .int)) (hI : vm1.classes[cI]? = some kI) (hIk : kI.kind = .array cC .int)
    (hN : N ≤ 1000) (hM : M ≤ 1000) (hcells : cells + (1 + N) ≤ R.cells) (hslots : slots + (N + N * M) ≤ R.slots) {Qa : Addr → Pre}
    (hq : ∀ d' acts', Qa T.heap.size d' acts' ((mnT T cG cI N M N).setTop g)) : wp (multianewarray.make cG [nI N, nI M]) Qa E e d acts (T.setTop g) := by
  obtain ⟨hr1, hr2⟩ := X.roomAbove hcells hslots
  have hl1 : ∀ n, n ≤ 1000 → ¬ n > e.platform.arrayLengthLimit := fun n h => by rw [Launch.admits_arrayLengthLimit X.admits]; omega
  have hh1 : ¬ N * componentBytes (.array .int) > e.platform.maxHeapBytes := by rw [Launch.admits_maxHeapBytes X.admits]; show ¬ N * 4 > 536870912; omega
  have hh2 : ¬ M * componentBytes .int > e.platform.maxHeapBytes := by rw [Launch.admits_maxHeapBytes X.admits]; show ¬ M * 4 > 536870912; omega
  have hn : ¬ nI N < 0 := nI_pos (by omega)
  have hm : ¬ nI M < 0 := nI_pos (by omega)
  have hfind : ([nI M].find? (· < 0)) = none := by simp [hm]
  have hG' : (T.setTop g).vm.classes[cG]? = some kG := by show T.vm.classes[cG]? = _; rw [hvm]; exact hG
  rw [multianewarray.make]
  simp only [wp_bind', Jvm.W.ite, hn, if_false, wp_pure', Jvm.W.theClass, hG', hGk, Option.some.injEq, exists_eq_left', nI_clamp (show N < 2 ^ 31 by omega)]
  refine mk_row hG' hGk (hl1 N hN) hh1 rfl rfl (by show T.heap.size < _; omega) (by show T.slotsUsed + N ≤ _; have := Nat.zero_le (N * M); omega) ?_
  simp only [hfind]
  rw [ite_self, wp_bind', Std.Legacy.Range.forIn_eq_forIn_range']
  have hsz : ([:N] : Std.Legacy.Range).size = N := by simp [Std.Legacy.Range.size]
  rw [hsz]
  show wp (forIn (List.range' 0 N 1) PUnit.unit _) _ E e d acts _
  refine wp_forIn_inv (fun rest s' => ∃ i, i ≤ N ∧ rest = List.range' i (N - i) ∧ s' = (mnT T cG cI N M i).setTop g) _ _ ⟨0, Nat.zero_le _, rfl, rfl⟩ ?_ ?_
  · rintro x rest s' d' acts' Q' ⟨i, hi, hl, rfl⟩ hnext
    have hlt : i < N := by
      rcases Nat.lt_or_ge i N with h | h
      · exact h
      · rw [show N - i = 0 from by omega] at hl; simp at hl
    obtain ⟨rfl, hrest⟩ : x = i ∧ rest = List.range' (i + 1) (N - (i + 1)) := by
      rw [show N - i = (N - (i + 1)) + 1 from by omega, List.range'_succ] at hl
      exact ⟨(List.cons.inj hl).1, (List.cons.inj hl).2⟩
    obtain ⟨h1, h2, h3, h4, h5, h6, -⟩ := mnT_ok (cG := cG) (cI := cI) (N := N) (M := M) hvm X x hi
    have hmul : x * M + M ≤ N * M := by
      have := Nat.mul_le_mul_right M (show x + 1 ≤ N from hlt)
      rw [Nat.succ_mul] at this; exact this
    have hI' : ((mnT T cG cI N M x).setTop g).vm.classes[cI]? = some kI := by show (mnT T cG cI N M x).vm.classes[cI]? = _; rw [h5]; exact hI
    have hG'' : (mnT T cG cI N M x).vm.classes[cG]? = some kG := by rw [h5]; exact hG
    simp only [wp_bind']
    rw [multianewarray.make]
    simp only [wp_bind', Jvm.W.ite, hm, if_false, wp_pure', Jvm.W.theClass, hI', hIk, Option.some.injEq, exists_eq_left', nI_clamp (show M < 2 ^ 31 by omega)]
    refine mk_row hI' hIk (hl1 M hM) hh2 rfl rfl (by show (mnT T cG cI N M x).heap.size < _; omega) (by show (mnT T cG cI N M x).slotsUsed + M ≤ _; omega) ?_
    simp only [wp_bind', Jvm.W.writeLoc, wp_pure']
    have hlt0 : T.heap.size < (mnT T cG cI N M x).heap.size := by omega
    refine ⟨arrV cG N (fun j => va_rf (if j < x then some (T.heap.size + 1 + j) else none)), ?_, (fun q => by cases q), by rw [arrV_size]; exact hlt, ?_, hnext _ _ _ ⟨x + 1, hlt, hrest, rfl⟩⟩
    · show ((mnT T cG cI N M x).pushCell _).heap[T.heap.size]? = _
      rw [State.heap_pushCell_of_lt (h := hlt0)]; exact h2
    · show State.fitsSlot _ cG .none x _ = true
      simp [State.fitsSlot, State.slotType?, hG'', hGk, fits]
  · rintro s' d' acts' ⟨i, hi, hl, rfl⟩
    have hiN : i = N := by
      rcases Nat.lt_or_ge i N with h | h
      · rw [show N - i = (N - (i + 1)) + 1 from by omega, List.range'_succ] at hl; cases hl
      · omega
    subst hiN
    simp only [wp_pure']
    exact hq _ _
end GMNA
